/** Terms: what the text is, and its words. */
final class WordsTest {
    private static final Check CHECK = new Check();
    private static final Faults TEXTS = new Faults(CHECK);

    public static void main(String[] args) {
        blanksPartWords();
        noOtherBlanks();
        numbers();
        numbersTooGreat();
        names();
        procedures();
        otherSigns();
        CHECK.end("WordsTest");
    }

    private static int value(String text) {
        return Texts.run(text).output(0);
    }

    private static void blanksPartWords() {
        CHECK.sentence("Spaces (32) and line ends (10) part words and mean nothing else");
        TEXTS.good("");
        TEXTS.good(" ");
        TEXTS.good("\n");
        TEXTS.good(" \n\n ");
        TEXTS.good(" a = 1 + 2\n;\n@ 3 = - a ; ");
        TEXTS.good("A \n { } A\n;");
        TEXTS.good("?\na\n{\n}\n:\n{\n}\n");
        TEXTS.fault("a=1 2;", 4);
        TEXTS.fault("a=1\n2;", 4);
        TEXTS.fault("a=b c;", 4);
        TEXTS.fault("  a", 3);
        TEXTS.fault("  a  ", 5);
        CHECK.due("the value of 12", value("!12;"), 12);
        CHECK.due("the value of 1 - 2", value("\n ! 1 - 2 ;"), -1);
        CHECK.due("the place behind blanks", Texts.started(" \n \n!1;").state(4), 4);
        CHECK.due("the terms behind blanks", Texts.compiled(" \n \n! 1;").terms(4), 1);
    }

    private static void noOtherBlanks() {
        CHECK.sentence("Spaces (32) and line ends (10) (and no other sign) part words");
        for (char sign = 1; sign < 256; sign++) {
            if (sign != ' ' && sign != '\n' && sign != ';' && !isDigit(sign)) {
                TEXTS.fault("!1" + sign + "2", isOperator(sign) ? 4 : 2);
            }
        }
        for (char sign : new char[] {9, 11, 12, 13, 127, 128, 133, 160, 255}) {
            TEXTS.fault("" + sign, 0);
            TEXTS.fault("a" + sign + "=1;", 1);
            TEXTS.fault("a=1;" + sign, 4);
        }
    }

    private static boolean isOperator(char sign) {
        return "+-*/%<=".indexOf(sign) >= 0;
    }

    private static boolean isDigit(char sign) {
        return sign >= '0' && sign <= '9';
    }

    private static void numbers() {
        CHECK.sentence("A NUMBER is a row of digits, at most 2147483647");
        for (int k = 0; k < 10; k++) {
            CHECK.due("the value of the digit " + k, value("!" + k + ";"), k);
        }
        CHECK.due("the value of 1234567890", value("!1234567890;"), 1234567890);
        CHECK.due("the value of 2147483646", value("!2147483646;"), 2147483646);
        CHECK.due("the value of 2147483647", value("!2147483647;"), 2147483647);
        CHECK.due("the value of 007", value("!007;"), 7);
        CHECK.due("the value of 00002147483647", value("!00002147483647;"), 2147483647);
        CHECK.due("the value of many zeros", value("!" + "0".repeat(2998) + ";"), 0);
        CHECK.due("the value of 2147483647 behind zeros", value("!" + "0".repeat(2988) + "2147483647;"), 2147483647);
        TEXTS.fault("!1/2:", 4);
        TEXTS.fault("!1:", 2);
        TEXTS.fault("!1b;", 2);
        TEXTS.fault("!b1;", 2);
    }

    private static void numbersTooGreat() {
        CHECK.sentence("also a number that is too great");
        TEXTS.fault("a=2147483648;", 2);
        TEXTS.fault("a=2147483650;", 2);
        TEXTS.fault("a=3000000000;", 2);
        TEXTS.fault("a=-2147483648;", 3);
        TEXTS.fault("a=4294967295;", 2);
        TEXTS.fault("a=4294967296;", 2);
        TEXTS.fault("a=4294967303;", 2);
        TEXTS.fault("a=10000000000;", 2);
        TEXTS.fault("a=9223372036854775808;", 2);
        TEXTS.fault("a=18446744073709551616;", 2);
        TEXTS.fault("a=18446744073709551617;", 2);
        TEXTS.fault("a=0002147483648;", 2);
        TEXTS.fault("a=" + "9".repeat(2998), 2);
        TEXTS.fault("a=1" + "0".repeat(2997), 2);
        TEXTS.fault("a= \n 2147483648 ;", 5);
        TEXTS.fault("a=1+2147483648;;", 4);
        TEXTS.fault("a=(1*(2147483648", 6);
        TEXTS.fault("@2147483648=1;", 1);
        TEXTS.fault("@1=2147483648;", 3);
        TEXTS.fault("!2147483648;", 1);
        TEXTS.fault("?2147483648{}", 1);
        TEXTS.fault("*1<2147483648{}", 3);
        TEXTS.fault("!1;!2147483648", 4);
        TEXTS.fault("a=1 9999999999;", 4);
    }

    private static void names() {
        CHECK.sentence("a NAME a letter a .. z");
        for (char name = 'a'; name <= 'z'; name++) {
            TEXTS.good(name + "=" + name + ";");
            CHECK.due("name(" + (name - 'a') + ")", Texts.run(name + "=7;").name(name - 'a'), 7);
        }
        TEXTS.fault("`=1;", 0);
        TEXTS.fault("{=1;", 0);
        TEXTS.fault("a=`;", 2);
        TEXTS.fault("a={;", 2);
        TEXTS.fault("ab=1;", 1);
        TEXTS.fault("a=bc;", 3);
    }

    private static void procedures() {
        CHECK.sentence("a PROCEDURE's name a letter A .. Z");
        for (char name = 'A'; name <= 'Z'; name++) {
            TEXTS.good(name + "{}" + name + ";");
            CHECK.due("output(0) of " + name, value(name + "{!7;}" + name + ";"), 7);
        }
        TEXTS.fault("@{}", 1);
        TEXTS.fault("[{}", 0);
        TEXTS.fault("AB{}", 0);
        TEXTS.fault("A{}AA;", 4);
        TEXTS.fault("A{}A1;", 4);
    }

    private static void otherSigns() {
        CHECK.sentence("each other sign is a word by itself");
        for (char sign = 1; sign < 256; sign++) {
            if (sign != ' ' && sign != '\n') {
                TEXTS.fault("" + sign, beginsStatement(sign) ? 1 : 0);
                TEXTS.fault("a=1; " + sign, beginsStatement(sign) ? 6 : 5);
                TEXTS.fault("a=" + sign, beginsFactor(sign) ? 3 : 2);
                TEXTS.fault("a" + sign, sign == '=' ? 2 : 1);
            }
        }
        TEXTS.fault("a==1;", 2);
        TEXTS.fault("a=1;;", 4);
        TEXTS.fault("!!1;", 1);
        TEXTS.fault("a=b<<c;", 4);
        TEXTS.fault("a=b//c;", 4);
        TEXTS.good("a=b--c;");
        TEXTS.good("a=@@c;");
    }

    private static boolean beginsStatement(char sign) {
        return sign >= 'a' && sign <= 'z' || "@!?*".indexOf(sign) >= 0;
    }

    private static boolean beginsFactor(char sign) {
        return sign >= 'a' && sign <= 'z' || isDigit(sign) || "(-@#".indexOf(sign) >= 0;
    }
}
