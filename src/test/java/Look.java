/**
 * All that can be seen of an object or a Model: what was told, the weights, the error, the output, then what undo
 * brings back and what the buffer holds. It takes the edits and the buffer away, so it is the last that is asked.
 */
final class Look {
    /** Answers a call as a text; of a boolean parameter 1 is true. */
    interface Asked {
        String answer(String name, int... values);
    }

    private final Asked asked;
    private final StringBuilder seen = new StringBuilder();

    private Look(Asked asked) {
        this.asked = asked;
    }

    static String at(Asked asked) {
        Look look = new Look(asked);
        look.told();
        look.ask("errorKind");
        look.ask("errorPosition");
        look.output();
        look.past();
        look.buffer();
        return look.seen.toString();
    }

    private String ask(String name, int... values) {
        String answer = asked.answer(name, values);
        seen.append(name).append(java.util.Arrays.toString(values)).append(' ').append(answer).append(", ");
        return answer;
    }

    private void told() {
        int points = Integer.parseInt(ask("points"));
        ask("mode");
        ask("degree");
        for (int k = 0; k < points; k++) {
            for (int which = 0; which < 4; which++) {
                ask("point", k, which);
            }
            ask("weight", k);
        }
        ask("coefficient", 0, 0);
        ask("coefficient", 1, 1);
    }

    private void output() {
        String answer = ask("written", 0);
        for (int k = 1; k < 200 && answer.length() == 1; k++) {
            answer = ask("written", k);
        }
    }

    private void past() {
        for (int k = 0; k < 12; k++) {
            if (ask("undo").equals("-1")) {
                return;
            }
            int points = Integer.parseInt(ask("points"));
            ask("mode");
            ask("degree");
            for (int point = 0; point < points; point++) {
                for (int which = 0; which < 3; which++) {
                    ask("point", point, which);
                }
            }
        }
    }

    private void buffer() {
        int bytes = Integer.parseInt(ask("feed", 0x20202020, 0x20202020, 0x20202020, 0x20202020, 0x20202020));
        ask("load", bytes < 0 ? 400 : bytes);
        ask("errorKind");
        ask("errorPosition");
        ask("points");
        ask("mode");
    }
}
