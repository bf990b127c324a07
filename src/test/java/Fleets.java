import java.nio.charset.StandardCharsets;

/** Hands texts to objects. */
final class Fleets {
    /** Two machines; one slot of the first is low, and the second is silent on the days 2 and 3. */
    static final String TWO = "fleet 0 0 shift 100 load 50 visit 5 alpha 50 level 50 horizon 2"
            + ";product 100 40 30;product 150 60 0"
            + ";machine 3 4;slot 0 10 4 200;slot 1 10 10 50 every 2"
            + ";machine 10 0 gap 2 3;slot 0 20 20 300";

    /** One machine that no route can hold, so that nothing is ever filled. */
    static final String FAR = "fleet 0 0 shift 1 load 50 visit 0 alpha 50 level 0 horizon 3"
            + ";product 10 1 7;machine 50 0;slot 0 10 3 250 every 3";

    /** Only a head; machines and slots are to follow. */
    static final String HEAD = "fleet 0 0 shift 999 load 100 visit 0 alpha 50 level 50 horizon 2;product 10 1 7";

    private Fleets() {
    }

    /** A fleet line with the depot at 0 0. */
    static String head(int shift, int load, int visit, int alpha, int level, int horizon) {
        return "fleet 0 0 shift " + shift + " load " + load + " visit " + visit + " alpha " + alpha + " level " + level
                + " horizon " + horizon;
    }

    static void write(VendingRoutes x, String text) {
        byte[] bytes = text.getBytes(StandardCharsets.ISO_8859_1);
        for (int at = 0; at < bytes.length; at += 20) {
            x.append(word(bytes, at), word(bytes, at + 4), word(bytes, at + 8), word(bytes, at + 12),
                    word(bytes, at + 16));
        }
    }

    private static int word(byte[] bytes, int at) {
        int word = 0;
        for (int i = at; i < at + 4; i++) {
            word = word << 8 | (i < bytes.length ? bytes[i] & 0xff : ' ');
        }
        return word;
    }

    static VendingRoutes loaded(String text) {
        VendingRoutes x = new VendingRoutes();
        write(x, text);
        x.load(text.length());
        return x;
    }
}
