/** An object of the class and a Model that are given the same calls. */
final class Pair {
    final WeightedNodes nodes = new WeightedNodes();
    final Model model = new Model();

    /** Calls by line: "name number number ..", or "load TEXT" which feeds the text first. */
    Pair(String... lines) {
        for (String line : lines) {
            String[] words = line.split(" ");
            if (words[0].equals("text")) {
                feed(line.substring(5));
                both("load", line.length() - 5);
            } else if (words[0].equals("fed")) {
                feed(line.substring(4));
            } else {
                int[] values = new int[words.length - 1];
                for (int k = 0; k < values.length; k++) {
                    values[k] = Integer.parseInt(words[k + 1]);
                }
                both(words[0], values);
            }
        }
    }

    private void feed(String text) {
        for (int[] words : Script.wordsOf(text)) {
            both("feed", words);
        }
    }

    private void both(String name, int... values) {
        String title = "before: " + name + java.util.Arrays.toString(values);
        Script.due(title, ofNodes(name, values), ofModel(name, values));
    }

    String ofNodes(String name, int... values) {
        return Script.answer(nodes, name, values);
    }

    String ofModel(String name, int... values) {
        return String.valueOf(model.answer(name, values));
    }
}
