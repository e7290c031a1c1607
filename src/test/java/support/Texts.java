/** Brings a text onto the tape of an object. */
final class Texts {
    private Texts() {
    }

    static String repeat(String text, int times) {
        StringBuilder all = new StringBuilder();
        for (int i = 0; i < times; i++) {
            all.append(text);
        }
        return all.toString();
    }

    static int word(String text, int at) {
        int word = 0;
        for (int i = at; i < at + 4; i++) {
            word = word << 8 | (i < text.length() ? text.charAt(i) & 255 : ' ');
        }
        return word;
    }

    /** The tape must be empty, or hold a multiple of twenty bytes less than what has room. */
    static void feed(OpenGates x, String text) {
        int had = x.count(7);
        for (int at = 0; at < text.length(); at += 20) {
            x.feed(word(text, at), word(text, at + 4), word(text, at + 8), word(text, at + 12), word(text, at + 16));
        }
        x.end(had + text.length());
    }

    static int law(OpenGates x, String text) {
        feed(x, text);
        return x.law();
    }

    static int orders(OpenGates x, String text) {
        feed(x, text);
        return x.orders();
    }
}
