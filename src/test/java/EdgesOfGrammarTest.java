/** Each sentence about the text with the cases at its edges. */
public final class EdgesOfGrammarTest {
    public static void main(String[] args) {
        Sentences.open("TEXT");
        length();
        separators();
        commands();
        numbers();
        characters();
        errors();
        allShortTexts();
        Sentences.end("EdgesOfGrammarTest");
    }

    private static IcePlant typed(String text) {
        IcePlant x = new IcePlant();
        Stories.type(x, text);
        return x;
    }

    /** The place of the error is marked with a sharp, which is not a part of the text. */
    private static void error(String marked, int kind) {
        errorAt(marked.replace("#", ""), marked.indexOf('#'), kind);
    }

    private static void errorAt(String text, int position, int kind) {
        IcePlant x = typed(text);
        Check.due("errorPosition of " + text, x.errorPosition(), position);
        Check.due("errorKind of " + text, x.errorKind(), kind);
        Check.due("execute of " + text, x::execute, Check.STATE);
        Check.due("length of " + text, x.clear(), text.length());
    }

    private static void fine(String text) {
        IcePlant x = typed(text);
        Check.due("errorPosition of " + text, x.errorPosition(), IcePlant.NONE);
        Check.due("errorKind of " + text, x.errorKind(), 0);
        Check.allowed("execute of " + text, x::execute);
        Check.due("length after execute of " + text, x.clear(), 0);
    }

    private static void length() {
        Sentences.test("A buffer contains a text of at most 120 characters.");
        fine("h1;".repeat(39) + "h1");
        fine("h1;".repeat(39) + "h12");
        fine("o0,000001,000001!;".repeat(6) + "o0,00001,001");
        error("h1;".repeat(40) + "#", 3);
        error("h1;".repeat(39) + "h1#x", 1);
        error("h01;" + "h1;".repeat(36) + "h123456#7", 2);
        IcePlant x = typed("h1;".repeat(39) + "h12");
        Check.state("character 121", () -> x.append('3'));
        Check.due("it has not been appended", x.execute(), 40);
        Check.due("time", x.total(0), 39 + 12);
    }

    private static void separators() {
        Sentences.test("A text consists of commands that are separated by semicolons; an empty text has no commands.");
        fine("");
        fine("h1;h2;h3");
        error("#;", 1);
        error("#;h1", 1);
        error("h1;#", 3);
        error("h1;#;h1", 1);
        error("h1#h1", 1);
        error("h1#,h1", 1);
        IcePlant x = new IcePlant();
        Check.due("no command in the empty text", x.execute(), 0);
        Check.due("which saves a state all the same", x.total(15), 1);
        Stories.type(x, "h1;h2;h3");
        Check.due("three commands", x.execute(), 3);
        Check.due("their hours", x.total(0), 6);
    }

    private static void commands() {
        Sentences.test("The commands are \"h\" number (pass), \"o\" number \",\" number \",\" number, which can be followed by \"!\"");
        String[] texts = {"h1", "o0,0,0", "o0,0,0!", "c0,0", "p0,0", "m0,0", "o0,0,0!;h1", "o0,0,0;c0,0"};
        for (String text : texts) {
            fine(text);
        }
        String[] tooMany = {"h1#,1", "o1,2,3#,4", "o1,2,3!#,4", "o1,2,3!#!", "c1,2#,3", "p1,2#,3", "m1,2#,3", "h1#!", "c1,2#!",
            "p1,2#!", "m1,2#!", "o1#!", "o1,2#!", "o1,2,#!"};
        for (String text : tooMany) {
            error(text, 1);
        }
        String[] tooFew = {"h#", "o#", "o1#", "o1,#", "o1,2#", "o1,2,#", "c#", "c1#", "c1,#", "p#", "p1#", "p1,#", "m#", "m1#", "m1,#"};
        for (String text : tooFew) {
            error(text, 3);
            error(text + ";h1", 1);
        }
        IcePlant x = Stories.withBoats(9, 9);
        x.addSilo(30, 0, 0);
        Stories.type(x, "h2;m0,1;o1,60,7;o0,70,8!;c1,500;p1,6");
        Check.due("each kind of command", x.execute(), 6);
        Check.due("pass", x.total(0), 2);
        Check.due("move", x.block(1, 0, 0), 3);
        int[][] orders = {{1, 60, 0, 7, 0}, {0, 70, 0, 8, 1}};
        for (int order = 0; order < 2; order++) {
            for (int property = 0; property < 5; property++) {
                Check.due("order", x.orderProperty(order, property), orders[order][property]);
            }
        }
        Check.due("setCatch", x.boat(1, 0) * 10 + x.boat(0, 0), 5009);
        Check.due("pay", x.boat(1, 1), -6);
    }

    private static void numbers() {
        Sentences.test("A number consists of 1 to 6 digits.");
        for (int digits = 1; digits <= 6; digits++) {
            String zeros = "0".repeat(digits - 1);
            IcePlant x = typed("h" + zeros + "7");
            Check.due("no error with " + digits + " digits", x.errorPosition(), IcePlant.NONE);
            Check.due("execute", x.execute(), 1);
            Check.due("the number is 7", x.total(0), 7);
        }
        error("h000000#7", 2);
        error("h#", 3);
        error("c0,#;", 1);
        for (char digit = '0'; digit <= '9'; digit++) {
            IcePlant x = new IcePlant();
            x.addBoat(5);
            Stories.type(x, "c0," + digit + "00" + digit + digit + digit);
            Check.due("digits " + digit, x.execute(), 1);
            Check.due("their value", x.boat(0, 0), (digit - '0') * 100111);
        }
        error("h#-1", 1);
        error("h#+1", 1);
        error("h1#.0", 1);
        error("h#/", 1);
        error("h#:", 1);
        error("h1#/", 1);
        error("h1#:", 1);
        error("h123456#/", 1);
        error("h123456#:", 1);
        error("h123456#,", 1);
    }

    private static void characters() {
        Sentences.test("There are no other characters.");
        for (int code = 32; code <= 126; code++) {
            String sign = String.valueOf((char) code);
            if ("hocpm".indexOf(code) < 0) {
                errorAt(sign, 0, 1);
                errorAt("h1;" + sign, 3, 1);
            } else {
                errorAt(sign, 1, 3);
            }
            if (code < '0' || code > '9') {
                errorAt("h" + sign, 1, 1);
                errorAt("o1,2," + sign, 5, 1);
                errorAt("h1" + sign, code == ';' ? 3 : 2, code == ';' ? 3 : 1);
                errorAt("m1" + sign, code == ',' ? 3 : 2, code == ',' ? 3 : 1);
                errorAt("o1,2,3" + sign + "?", code == '!' || code == ';' ? 7 : 6, 1);
                errorAt("o1,2,3!" + sign + "?", code == ';' ? 8 : 7, 1);
            }
        }
    }

    private static void errors() {
        Sentences.test("The text is read from left to right, and an error is found at the first position where no text continues");
        error("h1#x;h1234567", 1);
        error("h123456#7;x", 2);
        error("h123456#7x", 2);
        error("h123456#78", 2);
        error("h1;h123456#7", 2);
        error("#xh1234567;h", 1);
        error("c0,#,h", 1);
        error("h#;", 1);
        error("h1;h2;h#", 3);
        error("h1;h2;#;h3;", 1);
        // An error stays the same, whatever follows it.
        IcePlant x = typed("h12x");
        for (int length = 4; length < 120; length++) {
            Check.due("position with " + length, x.errorPosition(), 3);
            Check.due("kind with " + length, x.errorKind(), 1);
            x.append("h1;".charAt(length % 3));
        }
        // The text grows: where it may end there is no error, elsewhere it lacks something at its end.
        String text = "o1,234567,8!;h12;c0,5;m1,2;p7,000001";
        IcePlant y = new IcePlant();
        for (int length = 1; length <= text.length(); length++) {
            y.append(text.charAt(length - 1));
            boolean mayEnd = isEnd(text.substring(0, length));
            Check.due("position in " + text.substring(0, length), y.errorPosition(), mayEnd ? IcePlant.NONE : length);
            Check.due("kind in " + text.substring(0, length), y.errorKind(), mayEnd ? 0 : 3);
        }
    }

    private static boolean isEnd(String text) {
        String last = text.substring(text.lastIndexOf(';') + 1);
        return last.matches("h\\d+|o\\d+,\\d+,\\d+!?|[cpm]\\d+,\\d+");
    }

    /** Behind each of these beginnings all texts of up to three of the characters that have a meaning. */
    private static void allShortTexts() {
        Sentences.test("of the kind 1 if the character at this position cannot stand there; of the kind 2 if it is the seventh");
        String[] beginnings = {"", "h1;", "o1,", "o1,2,3", "o1,2,3!", "c1", "m1,", "h12345", "o1,23456,", "o1,2,12345", "p1,1"};
        String signs = " hocpm;,!1";
        for (String beginning : beginnings) {
            for (int number = 0; number < 1000; number++) {
                StringBuilder text = new StringBuilder(beginning);
                for (int rest = number; rest > 0; rest /= 10) {
                    text.append(signs.charAt(rest % 10));
                }
                compare(text.toString());
            }
        }
    }

    private static void compare(String text) {
        IcePlant x = typed(text);
        Model model = new Model();
        for (int i = 0; i < text.length(); i++) {
            model.append(text.charAt(i));
        }
        Check.due("errorPosition of " + text, x.errorPosition(), model.errorPosition());
        Check.due("errorKind of " + text, x.errorKind(), model.errorKind());
    }
}
