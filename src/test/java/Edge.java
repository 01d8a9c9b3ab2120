import java.util.ArrayList;
import java.util.LinkedHashMap;
import java.util.List;
import java.util.Map;

/**
 * Tests that each name a sentence of the document. A test whose sentence the document does not have is wrong, and so
 * is a sentence of its terms or promises that no test names.
 */
abstract class Edge {
    interface Test {
        void make();
    }

    interface Made {
        ParityGame game();
    }

    interface Asked {
        Object answer(ParityGame game, int value);
    }

    /** Place 2 (odd) ends plays that player 0 wins, place 5 (even) such that player 1 wins. */
    static final String ENDS =
            "game; even 3 4; odd 5; odd 1 2; even 7; move 0 1 0; move 1 2; move 3 4 5; move 4 4 3";
    static final String TWENTY = "game; even 0 1 2 3 4 5 6 7 8 9; odd 0 1 2 3 4 5 6 7 8 9";
    static final String TO_ALL = " 0 1 2 3 4 5 6 7 8 9 10 11 12 13 14 15 16 17 18 19";
    /** 20 places, 60 moves: from each of the first three places to all. */
    static final String FULL = TWENTY + "; move 0" + TO_ALL + "; move 1" + TO_ALL + "; move 2" + TO_ALL;
    static final int ALL_TWENTY = 1048575;

    private static final int LEAST = Integer.MIN_VALUE;
    private static final int MOST = Integer.MAX_VALUE;
    static final int[] NO_PLACE = {-1, 6, 7, 20, 32, LEAST, MOST};
    static final int[] NO_MOVE = {-1, 7, 8, 60, LEAST, MOST};
    static final int[] NO_PLAYER = {-1, 2, 3, LEAST, MOST};
    static final int[] NO_CALL = {-1, 10, 11, LEAST, MOST};
    static final int[] NO_SET = {-1, 64, 65, 127, 1 << 20, 1 << 30, LEAST, LEAST + 1, MOST};
    static final int[] NO_SLOT = {-1, 2, LEAST, MOST};

    private static final Map<String, String> sections = new LinkedHashMap<>();
    private static final Map<String, List<String>> named = new LinkedHashMap<>();
    private static String name = "";
    private static int answers;

    static void read(String document) {
        for (String section : document.split("(?m)^## ")) {
            String title = section.substring(0, section.indexOf('\n'));
            String text = section.substring(section.indexOf('\n'));
            text = text.replaceAll("(?m)^Ahead of the calls .*$", "").replaceAll("(?m)^[1-6]\\. [A-Z ,]+$", "");
            text = text.replaceFirst("^\\s*`[^`]*\\)[^`]*`: ", "").replace("```text", "").replace("```", "");
            sections.put(title.replaceFirst(":.*", ""), plain(text));
        }
    }

    private static String plain(String text) {
        return text.replaceAll("[`\"]", "").replaceAll("\\s+", " ").trim();
    }

    static void edge(String section, String sentence, Test test) {
        String found = plain(sentence);
        name = section + ", \"" + (found.length() > 70 ? found.substring(0, 70) + ".." : found) + "\"";
        named.computeIfAbsent(section, s -> new ArrayList<>()).add(found);
        Due.is(name + " is in the document", true, () -> sections.getOrDefault(section, "").contains(found));
        answers = 0;
        test.make();
        Due.is(name + " is asked for", true, () -> answers > 0);
    }

    static void edge(int promise, String sentence, Test test) {
        edge("Promise " + promise, sentence, test);
    }

    /** What is left of the terms and promises when all named sentences are taken away is nothing but signs. */
    static void nothingLeft() {
        for (Map.Entry<String, String> section : sections.entrySet()) {
            String title = section.getKey();
            if (title.equals("Terms") || title.startsWith("Promise")) {
                List<String> sentences = named.getOrDefault(title, new ArrayList<>());
                sentences.sort((a, b) -> b.length() - a.length());
                String left = section.getValue();
                for (String sentence : sentences) {
                    left = left.replace(sentence, "");
                }
                String all = left.trim();
                Due.is(title + ": named by no test", "", () -> all);
            }
        }
        Due.is("terms and 46 promises", true, () -> sections.size() >= 47);
    }

    static void is(Object due, Due.Call call) {
        answers++;
        Due.is(name, due, call);
    }

    static void is(String what, Object due, Due.Call call) {
        answers++;
        Due.is(name + ", " + what, due, call);
    }

    // ---- calls that throw

    /** A workbench of which every part holds something: six places, seven moves, changes, slot 0, both buffers. */
    static ParityGame rich() {
        ParityGame game = Due.loaded(ENDS);
        game.setCall(0, 9);
        game.lay(4);
        game.save(0);
        game.run(1);
        game.setCall(0, 3);
        game.writePlaces();
        wrong(game, "game; even 1 77");
        Due.feed(game, "game; odd 5   ; even 2 token; move 7");
        return game;
    }

    /** Loads a text that has an error. */
    static void wrong(ParityGame game, String text) {
        Due.feed(game, text);
        boolean thrown = false;
        try {
            game.load(text.length());
        } catch (IllegalStateException e) {
            thrown = true;
        }
        boolean right = thrown;
        is("a wrong text", true, () -> right);
    }

    static void illegal(int[] values, Asked call) {
        throwing("IllegalArgumentException", Edge::rich, values, call);
    }

    static void missing(int[] values, Asked call) {
        throwing("NoSuchElementException", Edge::rich, values, call);
    }

    /** Each value is refused, and nothing changes: a twin that was not asked answers all the same. */
    static void throwing(String exception, Made made, int[] values, Asked call) {
        String untouched = whole(made.game());
        for (int value : values) {
            ParityGame game = made.game();
            is("with " + value, "throws." + exception, () -> call.answer(game, value));
            is("with " + value + ", nothing changes", untouched, () -> whole(game));
        }
    }

    /** All that can be asked of a workbench, the changes that can be undone and the input buffer too; uses it up. */
    static String whole(ParityGame game) {
        StringBuilder text = new StringBuilder(told(game));
        text.append("|error ").append(game.errorCode());
        text.append(' ').append(game.errorPosition()).append("|output ").append(output(game));
        for (int left = 11; left > 0; ) {
            try {
                left = game.undo();
                text.append("|undo ").append(left).append(' ').append(told(game));
            } catch (IllegalStateException e) {
                text.append("|none left");
                left = 0;
            }
        }
        for (int slot = 0; slot < 2; slot++) {
            try {
                text.append("|slot ").append(game.restore(slot)).append(' ').append(told(game));
            } catch (IllegalStateException e) {
                text.append("|slot empty");
            }
        }
        return text.append(input(game)).toString();
    }

    /** What the calls tell of the game itself, and of who wins and by which moves. */
    static String told(ParityGame game) {
        StringBuilder text = new StringBuilder(Due.state(game));
        // The plan first, so that nothing that another call has found out is put right ahead of it.
        text.append(" plan");
        for (int place = 0; place < game.size(0); place++) {
            text.append(' ').append(game.plan(place));
        }
        text.append(" won ").append(game.won(0)).append(" sizes");
        for (int what = 4; what >= 2; what--) {
            text.append(' ').append(game.size(what));
        }
        return text.toString();
    }

    static String output(ParityGame game) {
        StringBuilder text = new StringBuilder();
        for (int i = 0; i < 1000; i++) {
            try {
                text.append((char) game.outputByte(i));
            } catch (IndexOutOfBoundsException e) {
                return text.toString();
            }
        }
        return text.toString();
    }

    /** The length of the input buffer and what is found when it is read; uses it up. */
    private static String input(ParityGame game) {
        for (int length = 700; length >= 0; length--) {
            try {
                int places = game.load(length);
                return "|input " + length + " right " + places + " " + Due.state(game);
            } catch (IllegalStateException e) {
                return "|input " + length + " wrong " + game.errorCode() + " " + game.errorPosition();
            } catch (IllegalArgumentException e) {
                continue;
            }
        }
        return "|no input";
    }

    /** The length of the input buffer; uses it up. */
    static int inputLength(ParityGame game) {
        return Integer.parseInt(input(game).replaceAll("[^0-9]*([0-9]+).*", "$1"));
    }

    // ---- games

    /** Places of one kind in a row, each with a move to the next one. */
    static String line(String owner, int places, int call) {
        StringBuilder text = new StringBuilder("game; ").append(owner);
        for (int place = 0; place < places; place++) {
            text.append(' ').append(call);
        }
        for (int place = 0; place + 1 < places; place++) {
            text.append(";move ").append(place).append(' ').append(place + 1);
        }
        return text.toString();
    }

    static String ring(String owner, int places, int call) {
        return line(owner, places, call) + ";move " + (places - 1) + " 0";
    }
}
