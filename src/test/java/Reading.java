/** All that a desk tells, as one text: two desks in the same state have the same reading. */
final class Reading {
    private static final int[] PACKETS = {0, 1, 2, 3, 4, 5, 6, 16, 47, 65535};

    private final Object desk;
    private final StringBuilder text = new StringBuilder();

    private Reading(Object desk) {
        this.desk = desk;
    }

    /** Takes up to 400 calls. What stands on the tape is told by a block, so the desk is used up by it. */
    static String of(Object desk) {
        Reading made = new Reading(desk);
        made.counts();
        made.block();
        made.catcher();
        made.tape();
        return made.text.toString();
    }

    private String ask(String method, Object... args) {
        String answer = Calls.answer(desk, method, args);
        text.append(Calls.text(method, args)).append(' ').append(answer).append("; ");
        return answer;
    }

    private void counts() {
        for (int what = 0; what <= 6; what++) {
            ask("count", what);
        }
        ask("rank");
    }

    private void block() {
        int bytes = Integer.parseInt(ask("count", 2));
        for (int x : PACKETS) {
            for (int i = 0; i < bytes; i++) {
                ask("byteAt", x, i);
            }
        }
    }

    private void catcher() {
        int bytes = Integer.parseInt(ask("count", 4));
        for (int x : PACKETS) {
            if (ask("follows", x).equals("true")) {
                for (int i = 0; i < bytes; i++) {
                    ask("known", x, i);
                }
            }
        }
    }

    /** Up to 48 bytes are told each; of more, one byte of each of 48 symbols. */
    private void tape() {
        int length = Integer.parseInt(ask("count", 0));
        int symbols = Math.min(length, 48);
        int bytes = length <= 48 ? 1 : Math.min(length / 48, 16);
        ask("end", symbols * bytes);
        ask("block", symbols, bytes);
        for (int x = 0; x < symbols; x++) {
            ask("byteAt", x, x % bytes);
        }
    }
}
