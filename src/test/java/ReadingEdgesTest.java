import java.util.ArrayList;
import java.util.List;

/** The boundary cases of THE LANGUAGE up to READING with FAULTS 1 to 3: one test for each sentence. */
public final class ReadingEdgesTest {
    private static final String[] KEPT = {"input", "of", "var", "def", "for", "to", "if", "else", "output", "int", "bit",
        "true", "false"};

    /** Each production of PROGRAM and of EXPR comes about, each of its words between blanks. */
    private static final String WHOLE = "input a of 0 : int [ 3 ] ; input b of 1 : bit ; "
        + "def f ( x : int , y : bit ) : int = y ? x : - x ; def g ( ) : bit = ! false ; "
        + "var v : int [ 2 ] = 1 ; var w : bit ; v [ 0 ] = a [ 1 ] + f ( 1 , true ) ; w = g ( ) ; "
        + "if ( bit ( a [ 0 ] , 1 ) ) { v [ 1 ] = int ( b ) ; var n : int ; } else if ( ~ 1 == 2 ) { } else { w = b ; } "
        + "for i = 0 to 1 { v [ i ] = ( 2 ) ; if ( w ) { } } output v [ 0 ] ; output w && b || true ;";

    private static final String SIXTEEN = "abcdefghijklmn_9";

    public static void main(String[] args) {
        Edges edges = new Edges("ReadingEdgesTest", args);
        words(edges);
        faults(edges);
        nesting(edges);
        edges.end();
    }

    private static void words(Edges edges) {
        edges.of("textBytes", "A TEXT has bytes 32 .. 126, 9 and 10.", ReadingEdgesTest::textBytes);
        edges.of("blanks", "BLANKS (32, 9, 10) and comments", ReadingEdgesTest::blanks);
        edges.of("comments", "comments (# up to a byte 10 or the end) stand between words as one likes",
            ReadingEdgesTest::comments);
        edges.of("noneMust", "(none must: 0to is 0 and to)", ReadingEdgesTest::noneMust);
        edges.of("nameBytes", "NAME: a letter or _, then letters, digits, _.", ReadingEdgesTest::nameBytes);
        edges.of("numberBytes", "NUMBER: digits.", ReadingEdgesTest::numberBytes);
        edges.of("twoSigns", "Two signs that make one (|| && == != <= >= << >>) are one", ReadingEdgesTest::twoSigns);
        edges.of("fromTheLeft", "are one, from the left.", ReadingEdgesTest::fromTheLeft);
        edges.of("kept", "These words are no NAMEs: input of var def for to if else output int bit true false.",
            ReadingEdgesTest::kept);
        edges.of("emptyProgram", "PROGRAM: {ITEM}.", ReadingEdgesTest::emptyProgram);
        edges.of("params", "def NAME ( [NAME : SORT {, NAME : SORT}] ) : SORT = EXPR ;", ReadingEdgesTest::params);
        edges.of("varAlone", "var NAME : TYPE [= EXPR] ;", ReadingEdgesTest::varAlone);
        edges.of("elseOrNot", "if ( EXPR ) BLOCK [else BLOCK | else if..]", ReadingEdgesTest::elseOrNot);
        edges.of("emptyBlock", "BLOCK: { {STATEMENT} }.", ReadingEdgesTest::emptyBlock);
        edges.of("types", "TYPE: SORT | SORT [ NUMBER ] (an ARRAY).", ReadingEdgesTest::types);
        edges.of("choice", "EXPR: CHOICE [? EXPR : EXPR]", ReadingEdgesTest::choice);
        edges.of("rows", "weakest first, those of one row from the left", ReadingEdgesTest::rows);
        edges.of("pairs", "|| ; && ; | ; ^ ; & ; == != ; < <= > >= ; << >> ; + - ; * / % .", ReadingEdgesTest::pairs);
        edges.of("signs", "FACTOR: - ~ ! FACTOR", ReadingEdgesTest::signs);
        edges.of("callExprs", "NAME ( [EXPR {, EXPR}] )", ReadingEdgesTest::callExprs);
        edges.of("conversions", "int ( EXPR ), bit ( EXPR , EXPR ), ( EXPR ).", ReadingEdgesTest::conversions);
    }

    private static void faults(Edges edges) {
        edges.of("cannotStand", "1 what can't stand there (a word at its beginning", ReadingEdgesTest::cannotStand);
        edges.of("theEnd", "the end: the text's length)", ReadingEdgesTest::theEnd);
        edges.of("staleTape", "The tape is a PROGRAM, and empty then", ReadingEdgesTest::staleTape);
        edges.of("firstMet", "told with the place (from 0) of the first one met from left to right",
            ReadingEdgesTest::firstMet);
        edges.of("longName", "2 (at it) a NAME of more than 16 bytes", ReadingEdgesTest::longName);
        edges.of("manyDigits", "a NUMBER of more than 10 digits", ReadingEdgesTest::manyDigits);
        edges.of("largeNumber", "or above 4294967295", ReadingEdgesTest::largeNumber);
        edges.of("noParty", "as a party one that there is not", ReadingEdgesTest::noParty);
        edges.of("arraySize", "as an ARRAY's size one that is not 1 .. 64", ReadingEdgesTest::arraySize);
        edges.of("inputWords", "an input or var whose words with those of the inputs", ReadingEdgesTest::inputWords);
        edges.of("varWords", "(of the vars) ahead of it in the text are more than 256", ReadingEdgesTest::varWords);
        edges.of("behindType", "(at its NAME, told behind its TYPE)", ReadingEdgesTest::behindType);
        edges.of("sizeOrOne", "(an ARRAY has as many as its size, others one)", ReadingEdgesTest::sizeOrOne);
        edges.of("lowestNumber", "At one place the lowest number counts.", ReadingEdgesTest::lowestNumber);
    }

    private static void nesting(Edges edges) {
        edges.of("nestedParens", "( ) around EXPRs", ReadingEdgesTest::nestedParens);
        edges.of("nestedAnywhere", "the 31st that lie in one another of", ReadingEdgesTest::nestedAnywhere);
        edges.of("nestedCalls", "(also those of a call without any)", ReadingEdgesTest::nestedCalls);
        edges.of("nestedIndexes", "and [ ] around one", ReadingEdgesTest::nestedIndexes);
        edges.of("nestedSigns", "- ~ ! with their FACTOR", ReadingEdgesTest::nestedSigns);
        edges.of("nestedChoices", "? with both of its EXPRs", ReadingEdgesTest::nestedChoices);
        edges.of("nestedBlocks", "BLOCKs, an if behind else", ReadingEdgesTest::nestedBlocks);
        edges.of("nestedElse", "an if behind else. At one place", ReadingEdgesTest::nestedElse);
        edges.of("nestedMixed", "3 (at the sign that opens it, or the if) the 31st that lie in one another of",
            ReadingEdgesTest::nestedMixed);
        edges.of("notNested", "the 31st that lie in one another of: ( ) around EXPRs", ReadingEdgesTest::notNested);
    }

    // ---- Words

    private static void textBytes(Edges e) {
        for (int b = 0; b < 256; b++) {
            boolean text = b >= 32 && b <= 126 || b == 9 || b == 10;
            ShareHouse x = e.fresh();
            same20(e, x, "output 7;#" + (char) b, text ? 11 : -1);
            if (text) {
                e.same("compile with a byte " + b, x.compile(), 0);
                e.same("truth with a byte " + b, x.truth(0), 7);
            }
        }
    }

    private static void same20(Edges e, ShareHouse x, String text, int due) {
        e.same("end with a byte " + (int) text.charAt(text.length() - 1), Check.put(x, text), due);
    }

    private static void blanks(Edges e) {
        e.sound("", " ", "\t", "\n", " \t\n \n\t ", "\n\toutput\n\t1 \n;\t");
        for (String blank : new String[] {" ", "\t", "\n", "\n\n\t  "}) {
            e.sound(WHOLE.replace(" ", blank), blank + WHOLE + blank);
        }
        e.due(1, "out @put 1;", "output 1 @1;", "output 1\t@1;",
            "output 1\n@1;");
        for (int b = 33; b < 127; b++) {
            // No other byte goes for a blank ahead of the first word.
            ShareHouse x = e.fresh();
            e.same("compile behind a byte " + b, Check.compile(x, (char) b + " output 1;"), b == '#' ? 0 : 1);
            e.same("outputs behind a byte " + b, x.look(6), b == '#' ? 0 : -1);
        }
    }

    private static void comments(Edges e) {
        e.sound("#", "##", "# a", "#\n", "output 1;#", "output 1;# output", "output#\n1#;\n;", "#$%!\"'\\");
        e.outcome("#output 1;\noutput 2;#output 3;", new int[0], 2);
        e.outcome("output 1#\toutput 5; # ;\n+2;", new int[0], 3);
        e.outcome("output 1;#\n\noutput 2;#\n#\noutput 3;", new int[0], 1, 2, 3);
        e.sound(WHOLE.replace(" ", "# ;\n"));
        e.due(1, "output 1#;@", "output 1#\n@", "output 1# \n  @", "output 1#\n\n@1;", "out#\n@put 1;");
    }

    private static void noneMust(Edges e) {
        e.sound("for i=0to 3{}", "for i=0to(3){}for j=(0)to-3{}", "output(1);output-1;output!true;output~1;",
            "if(true){}else{}if(true){}else if(true){}output 1;", "var a:int[3];a[0]=1;output a[0];input b of 0:int;");
        // But what makes one word is one: to3, of0, outputx are NAMEs.
        e.due(1, "for i=0@to3{}", "input a @of0:int;", "outputx@;", "input a of 0:@int3;", "if(true){}elseif@(true){}");
        e.due(1, "output 0@to;", "output 12@ab;");
    }

    private static void nameBytes(Edges e) {
        for (int b = 33; b < 127; b++) {
            char c = (char) b;
            boolean first = c >= 'a' && c <= 'z' || c >= 'A' && c <= 'Z' || c == '_';
            boolean next = first || c >= '0' && c <= '9';
            String alone = "var " + c + ":int;";
            e.dueAt(first ? 0 : 1, first ? -1 : c == '#' ? alone.length() : 4, alone);
            String behind = "var a" + c + ":int;";
            e.dueAt(next ? 0 : 1, next ? -1 : c == '#' ? behind.length() : c == ':' ? 6 : 5, behind);
            String within = "var a" + c + "b:int;";
            e.dueAt(next ? 0 : 1, next ? -1 : c == '#' ? within.length() : c == ':' ? 6 : 5, within);
        }
        e.sound("var a:int;var A:int;var _:int;var a_:int;var a0:int;var __:int;var aa:int;var _0:int;");
        e.due(4, "var aB:int;output @ab;", "var a1:int;output @a2;", "var a_:int;output @a;");
    }

    private static void numberBytes(Edges e) {
        e.use(2, 32);
        e.value("0", 0);
        e.value("9", 9);
        e.value("1234567890", 1234567890);
        e.value("0987654321", 987654321);
        e.value("8/2", 4);
        e.due(1, "output 1@:2;", "output 1@a;", "output 1@_;", "output 1@.0;", "output @.1;", "output 1 @2;");
    }

    private static void twoSigns(Edges e) {
        e.value("false||true", 1);
        e.value("true&&false", 0);
        e.value("1==1", 1);
        e.value("1!=1", 0);
        e.value("1<=1", 1);
        e.value("1>=2", 0);
        e.value("1<<2", 4);
        e.value("8>>2", 2);
        e.due(1, "output true| @|true;", "output true& @&true;", "output 1@= =1;", "output 1@! =1;", "output 1< @=1;",
            "output 1> @=1;", "output 1< @<1;", "output 1>\n@>1;", "output true|#\n@|true;");
        // Others stay two, also those that have a = behind them.
        e.value("1<-1", 0);
        e.value("1--1", 2);
        e.value("2*-1&-2", 254);
        e.due(0, "output!!true;output!(true);output-~1;output 1!=~1;output true&&!true;");
        e.due(1, "output 1@=1;", "output 1*@=1;", "output 1-@=1;", "output 1<@>1;", "output 1^@^1;", "output 1>@<1;");
    }

    private static void fromTheLeft(Edges e) {
        e.due(1, "output 1<<@=1;", "output 1<<@<1;", "output 1>>@>1;", "output 1>>@=1;", "output 1==@=1;",
            "output 1!=@=1;", "output 1||@|1;", "output 1&&@&1;", "output 1<=@>1;", "output 1<=@=1;", "output 1>=@=1;",
            "output 1>=@<1;", "output 1|@&1;", "output 1&@|1;", "output !@!=1;", "output 1@=<1;",
            "x@==1;", "output 1||@||1;", "output 1<<@<<1;");
        e.value("1<=-1", 0);
        e.value("1<<-0", 1);
        e.value("true==!true", 0);
    }

    private static void kept(Edges e) {
        for (String word : KEPT) {
            e.due(1, "var @" + word + ":int;", "input @" + word + " of 0:int;", "def @" + word + "():int=1;",
                "def f(@" + word + ":int):int=1;", "for @" + word + "=0 to 1{}", "var a:@" + word + "a;");
        }
        e.due(1, "output @input;", "output @of;", "output @var;", "output @def;", "output @for;", "output @to;",
            "output @if;", "output @else;", "output @output;", "output int@;", "output bit@;", "@int=1;", "@true=false;");
        e.sound("output true;output false;");
        for (String word : KEPT) {
            for (String near : new String[] {word + "x", "x" + word, word + "_", "_" + word, word + "1",
                word.substring(0, word.length() - 1), word.toUpperCase(), word.substring(0, 1).toUpperCase()
                    + word.substring(1)}) {
                e.sound("var " + near + ":int;" + near + "=1;output " + near + ";");
            }
        }
    }

    // ---- PROGRAM and EXPR

    private static void emptyProgram(Edges e) {
        ShareHouse x = e.fresh();
        e.same("compile of nothing", x.compile(), 0);
        int[] due = {-1, 0, 0, 0, 0, 0, 0, 0, 0, 0, 0, 0, 1};
        for (int what = 0; what < due.length; what++) {
            e.same("look(" + what + ") of nothing", x.look(what), due[what]);
        }
        e.sound("var a:int;", "output 1;", "output 1;output 2;", WHOLE);
        e.due(1, "@;", "output 1;@;", "@{}", "@}", "@1;", "@=", "@of", "@to", "@else{}", "@int", "@bit", "@true", "@false",
            "@(1);", "@-1;", "@[", "@:", "@,", "@?");
    }

    private static void params(Edges e) {
        e.sound("def f():int=1;", "def f(a:int):int=a;", "def f(a:int,b:bit):int=a;", "def f(a:bit,b:bit,c:int):bit=b;");
        e.due(1, "def f(@,):int=1;", "def f(a:int,@):int=1;", "def f(@,a:int):int=1;", "def f(a:int @b:int):int=1;",
            "def f(a@):int=1;", "def f(a:@):int=1;", "def f(a:int@[1]):int=1;", "def f()@=1;", "def f():@=1;",
            "def f():int@[1]=1;", "def f():int@;", "def f():int=@;", "def f@:int=1;", "def f(a:int@;",
            "if(true){@def f():int=1;}", "for i=0to 0{@input a of 0:int;}", "if(true){}else{@output 1;}");
    }

    private static void varAlone(Edges e) {
        e.sound("var a:int;", "var a:int=1;", "var a:bit[2];", "var a:bit[2]=true;");
        e.due(1, "var a:int=@;", "var a:int@==1;", "var a:@int1;", "var a@;", "var a@=1;", "var @;", "var a:int@,b:int;");
    }

    private static void elseOrNot(Edges e) {
        e.sound("if(true){}", "if(true){}else{}", "if(true){}else if(true){}", "if(true){}else if(true){}else{}",
            "if(true){}if(true){}else{}");
        e.due(1, "@else{}", "if(true){}else{}@else{}", "if(true){}else@", "if(true){}else @for i=0to 1{}",
            "if(true){}else@;", "if(true){}else{}@else if(true){}", "if(true){}else @else{}", "if(@){}", "if @true{}",
            "if(true)@;", "if(true)@var a:int;", "if(true@,true){}");
    }

    private static void emptyBlock(Edges e) {
        e.sound("if(true){}", "for i=0to 1{}", "if(true){var a:int;}", "if(true){var a:int;a=1;if(true){}for i=0to 1{}}");
        e.due(1, "if(true){@;}", "if(true){@{}}", "if(true){}@}", "if(true){@", "if(true){var a:int;@", "for i=0to 1{@)");
    }

    private static void types(Edges e) {
        e.sound("var a:int;var b:bit;var c:int[1];var d:bit[64];");
        e.due(1, "var a:int[@];", "var a:int[@-1];", "var a:int[@b];", "var a:int[1@,2];", "var a:int[1]@[1];",
            "var a:int[1@;", "var a:@[1];", "var a:@a;", "var a:@true;", "var a:int[@(1)];", "var a:int[1@+1];");
    }

    private static void choice(Edges e) {
        e.value("true?1:2", 1);
        e.value("false?1:2", 2);
        e.value("true?1:0+5", 1);
        e.value("false?1:0+5", 5);
        e.value("false||true?1:2", 1);
        e.value("true?false?1:2:3", 2);
        e.value("false?1:true?2:3", 2);
        e.value("(true?1:2)+5", 6);
        e.due(1, "output true?1@;", "output true?@:1;", "output true?1:@;", "output true@:1;", "output @?1:2;",
            "output true?@?1:2;", "output true?1:2@:3;");
    }

    private static void rows(Edges e) {
        // Each row beside the next stronger one, so that the other way would give another value or SORT.
        e.value("true||true&&false", 1);
        e.value("false&&true|true", 0);
        e.value("1|1^1", 1);
        e.value("1^1&0", 1);
        e.value("false&false==false", 0);
        e.value("true==1<2", 1);
        e.value("true!=1>=2", 1);
        e.value("1<1<<1", 1);
        e.value("1<<1+1", 4);
        e.value("64>>1-1", 64);
        e.value("1+1*0", 1);
        e.value("9-8/2", 5);
        e.value("9-9%4", 8);
        // And ahead of it.
        e.value("false&&true||true", 1);
        e.value("1^1|1", 1);
        e.value("0&1^1", 1);
        e.value("1<2==true", 1);
        e.value("1<<1<4", 1);
        e.value("1+1<<1", 4);
        e.value("2*3+1", 7);
        // Those of one row from the left.
        e.value("8-4-2", 2);
        e.value("7-3+2", 6);
        e.value("16/4/2", 2);
        e.value("8/2*4", 16);
        e.value("9%5*2", 8);
        e.value("3*9%5", 2);
        e.value("3*9/5", 5);
        e.value("9/2%3", 1);
        e.value("4>>1<<1", 4);
        e.value("1==1==true", 1);
        e.value("1!=1==false", 1);
        e.due(5, "output true@==1==1;", "output 1<2@<3;", "output 3>2@>=1;");
        e.value("-1+2", 1);
        e.value("!true||true", 1);
        e.value("~1*2", 252);
    }

    private static final String[][] ROWS = {{"||"}, {"&&"}, {"|"}, {"^"}, {"&"}, {"==", "!="}, {"<", "<=", ">", ">="},
        {"<<", ">>"}, {"+", "-"}, {"*", "/", "%"}};

    /** Each operator beside each other one, over whatever SORTS: as it is with ( ) where they are due. */
    private static void pairs(Edges e) {
        e.use(2, 3);
        ShareHouse plain = e.fresh();
        ShareHouse due = e.fresh();
        for (int low = 0; low < ROWS.length; low++) {
            for (int high = 0; high < ROWS.length; high++) {
                for (String one : ROWS[low]) {
                    for (String other : ROWS[high]) {
                        for (int sorts = 0; sorts < 8; sorts++) {
                            String[] texts = pair(one, other, low < high, sorts);
                            samePair(e, plain, texts[0], due, texts[1]);
                        }
                    }
                }
            }
        }
    }

    private static String[] pair(String one, String other, boolean otherFirst, int sorts) {
        String inputs = "input p of 0:bit;input q of 1:bit;input x of 0:int;input y of 1:int;output ";
        // What stands right of a shift must be PUBLIC, or the FAULT would hide what it is right of.
        boolean shift = one.equals("<<") || one.equals(">>");
        String a = (sorts & 1) == 0 ? "p" : "x";
        String b = (sorts & 2) == 0 ? shift ? "false" : "q" : shift ? "1" : "y";
        String c = (sorts & 4) == 0 ? "true" : "1";
        return new String[] {inputs + a + one + b + other + c + ";", inputs + (otherFirst ? a + one + "(" + b + other + c + ")"
            : "(" + a + one + b + ")" + other + c) + ";"};
    }

    private static void samePair(Edges e, ShareHouse plain, String text, ShareHouse due, String with) {
        int fault = Check.compile(due, with);
        e.same("compile of " + text, Check.compile(plain, text), fault);
        if (fault != 0) {
            String ahead = with.substring(0, due.look(0));
            e.same("place in " + text, plain.look(0), ahead.replace("(", "").replace(")", "").length());
            return;
        }
        e.same("GATES of " + text, plain.look(1), due.look(1));
        for (int g = 0; g < due.look(1); g++) {
            for (int what = 0; what < 4; what++) {
                e.same("gate of " + text, plain.gate(g, what), due.gate(g, what));
            }
        }
        for (int j = 0; j < 4; j++) {
            e.same("literal of " + text, plain.literal(0, j), due.literal(0, j));
        }
    }

    private static void signs(Edges e) {
        e.value("-1", 255);
        e.value("~0", 255);
        e.value("!false", 1);
        e.value("- -1", 1);
        e.value("-~0", 1);
        e.value("~-1", 0);
        e.value("!!true", 1);
        e.value("1 - - - 1", 0);
        e.due(1, "output -@;", "output !@;", "output ~@);", "output @+1;", "output @*1;", "output 1@~1;", "output 1@!1;",
            "output -@+1;");
    }

    private static void callExprs(Edges e) {
        String defs = "def f():int=1;def g(a:int):int=a;def h(a:int,b:int):int=a-b;";
        e.sound(defs + "output f();output g(1);output h(1,2);output h(g(1),f());");
        e.due(1, defs + "output f(@,);", defs + "output g(1,@);", defs + "output h(@,1);", defs + "output h(1 @2);",
            defs + "output h(1,2@;", defs + "output f()@();", defs + "output f()@[1];", defs + "output g(1@:2);");
    }

    private static void conversions(Edges e) {
        e.sound("output int(true);output bit(1,0);output(1);");
        e.due(1, "output int(@);", "output int@;", "output int(true@,true);", "output int @true;", "output bit(@);",
            "output bit(1@);", "output bit(1,@);", "output bit(1,0@,0);", "output bit(@,0);", "output bit@;",
            "output (@);", "output (1@,2);", "output (1@;", "output int@[1];");
    }

    // ---- FAULT 1

    private static void cannotStand(Edges e) {
        String[] words = WHOLE.split(" ");
        for (int k = 0; k <= words.length; k++) {
            String ahead = joined(words, 0, k);
            String behind = joined(words, k, words.length);
            for (String wrong : new String[] {"$", "@", "\"", "'", "\\", "`", "."}) {
                e.dueAt(1, ahead.length(), ahead + wrong + " " + behind);
            }
        }
        e.due(1, "output 1 @abc;", "output 1 @123;", "output 1 @output;", "output @if;", "var a:int @input;");
    }

    private static String joined(String[] words, int from, int to) {
        StringBuilder text = new StringBuilder();
        for (int i = from; i < to; i++) {
            text.append(words[i]).append(' ');
        }
        return text.toString();
    }

    private static void theEnd(Edges e) {
        String[] words = WHOLE.split(" ");
        int open = 0;
        for (int k = 0; k < words.length; k++) {
            String ahead = joined(words, 0, k);
            String last = k == 0 ? ";" : words[k - 1];
            open += last.equals("{") ? 1 : last.equals("}") ? -1 : 0;
            boolean whole = open == 0 && (last.equals(";") || last.equals("}"));
            for (String tail : new String[] {"", "\n\t ", "# ;", "#\n"}) {
                String text = ahead.trim() + tail;
                e.dueAt(whole ? 0 : 1, whole ? -1 : text.length(), text);
            }
        }
        // A text that fills the tape, and its end is what can't stand.
        e.dueAt(1, 4000, "output 1" + " ".repeat(3992));
        e.dueAt(0, -1, "output 1" + " ".repeat(3991) + ";");
        e.dueAt(1, 3999, " ".repeat(3999) + "$");
    }

    private static void staleTape(Edges e) {
        String[] tails = {"output 1<", "output 1|", "output 1&", "output 1>", "output 1=", "output 1!", "output ab",
            "output 12", "output 1", "output tru", "# a"};
        for (String tail : tails) {
            // What an earlier text left behind the end of this one has no part in it.
            for (String stale : new String[] {"<<<<<<<<<<<<<<<<", "||||||||||||||||", "&&&&&&&&&&&&&&&&",
                "================", "eeeeeeeeeeeeeeeeeeeeeee", "000000000000000000000", ";;;;;;;;;;;;;;", ">>>>>>>>>>>"}) {
                ShareHouse x = e.fresh();
                e.holds("a fault", Check.compile(x, "output 1" + stale + stale) != 0);
                e.same("the tape is empty", x.end(0), 0);
                int place = tail.endsWith("1=") || tail.endsWith("1!") ? tail.length() - 1 : tail.length();
                boolean comment = tail.startsWith("#");
                e.same("compile of " + tail + " behind " + stale, Check.compile(x, tail), comment ? 0 : 1);
                e.same("place in " + tail + " behind " + stale, x.look(0), comment ? -1 : place);
            }
        }
    }

    private static void firstMet(Edges e) {
        String deep = "output " + "(".repeat(30);
        e.due(1, "@$ var a:int[65];", "@; output 4294967296;", "var a @int[0];", "output 1 @1;" + deep + "(");
        e.due(2, "var a:int[@65] $", "output @4294967296 $", "var @" + SIXTEEN + "x $", "input a of @7 $",
            "output @4294967296;" + deep + "(", "var a:int[@0]];var b:int[65];", "output @12345678901+4294967296;");
        e.due(3, deep + "@( $", deep + "@(4294967296", deep + "@(;");
        e.due(1, deep + "@$(");
        e.due(2, deep + "@4294967296(");
        // All of them ahead of all that comes later, wherever they are.
        e.due(1, "output zz;output 1+true;output 1<<9;@$");
        e.due(2, "output zz;output 1+true;output 1<<9;output @4294967296;");
        e.due(3, "output zz;output 1+true;output 1<<9;" + deep + "@(");
    }

    // ---- FAULT 2

    private static void longName(Edges e) {
        // Each place where a NAME can stand, with what is told of one of 16 bytes there.
        Object[][] places = {{"var %:int;", 0}, {"input % of 0:int;", 0}, {"def %():int=1;", 0}, {"def f(%:int):int=1;", 0},
            {"def f(a:int,%:bit):int=1;", 0}, {"for %=0to 1{}", 0}, {"%=1;", 4}, {"%[0]=1;", 4}, {"output %;", 4},
            {"output %[0];", 4}, {"output %(0);", 4}, {"output 1+%;", 4}, {"if(true){%=1;}", 4},
            {"for i=% to 1{}", 4}, {"def f():int=%;", 4}};
        for (Object[] place : places) {
            String text = (String) place[0];
            int at = text.indexOf('%');
            int fault = (Integer) place[1];
            e.dueAt(fault, fault == 0 ? -1 : at, text.replace("%", SIXTEEN));
            e.dueAt(2, at, text.replace("%", SIXTEEN + "x"));
            e.dueAt(2, at, text.replace("%", "_".repeat(17)));
            e.dueAt(2, at, text.replace("%", "a1".repeat(200)));
        }
        e.outcome("var " + SIXTEEN + ":int=5;var abcdefghijklmn_8:int=6;output " + SIXTEEN + ";", new int[0], 5);
        e.due(4, "var abcdefghijklmnop:int;output @abcdefghijklmnoq;");
    }

    private static void manyDigits(Edges e) {
        e.use(2, 32);
        e.sound("output 0000000000;", "input a of 0000000001:int;", "var a:int[0000000064];", "output 1000000000;");
        e.due(2, "output @00000000000;", "output @00000000001;", "output @" + "0".repeat(30) + ";",
            "input a of @00000000001:int;", "var a:int[@00000000064];", "input a of 0:bit[@00000000001];",
            "output @10000000000;", "output @18446744073709551617;", "output @340282366920938463463374607431768211457;",
            "output @" + "9".repeat(3000) + ";", "a[@00000000000]=1;");
        e.value("0000000007", 7);
    }

    private static void largeNumber(Edges e) {
        e.use(2, 32);
        e.value("4294967295", 4294967295L);
        e.value("4294967294", 4294967294L);
        e.value("2147483648", 2147483648L);
        e.due(2, "output @4294967296;", "output @4294967297;", "output @9999999999;", "output @8589934591;",
            "input a of @4294967296:int;", "var a:int[@4294967297];", "output 1<<@4294967296;");
        e.use(2, 1);
        e.value("4294967295", 1);
        e.value("4294967294", 0);
        e.due(2, "output @4294967296;");
    }

    private static void noParty(Edges e) {
        for (int n = 2; n <= 16; n++) {
            e.use(n, 4);
            ShareHouse x = e.built("input a of " + (n - 1) + ":int;input b of 0:bit;");
            e.same("party of a", x.input(0, 0), n - 1);
            e.same("party of b", x.input(1, 0), 0);
            e.due(2, "input a of @" + n + ":int;", "input a of @" + (n + 16) + ":int;", "input a of @4294967295:int;",
                "input a of @256:int;", "input a of @4294967296:int;");
        }
        e.use(17, 4);
        e.due(2, "input a of @16:int;");
        e.use(0, 4);
        e.due(2, "input a of @2:int;");
        e.due(1, "input a of @-1:int;", "input a of @b:int;", "input a of @:int;");
    }

    private static void arraySize(Edges e) {
        for (String sort : new String[] {"int", "bit"}) {
            for (String head : new String[] {"var a:", "input a of 0:"}) {
                e.sound(head + sort + "[1];", head + sort + "[64];");
                e.due(2, head + sort + "[@0];", head + sort + "[@65];", head + sort + "[@4294967295];",
                    head + sort + "[@256];", head + sort + "[@0000000000];", head + sort + "[@4294967296];");
            }
        }
        e.same("words of one", e.built("input a of 0:int[1];").look(5), 1);
        e.same("words of 64", e.built("input a of 0:int[64];").look(5), 64);
    }

    private static String singles(String form, int count) {
        StringBuilder text = new StringBuilder();
        for (int i = 0; i < count; i++) {
            text.append(form.replace("%", "s" + i));
        }
        return text.toString();
    }

    private static void inputWords(Edges e) {
        String ahead = "input a of 0:int[64];input b of 1:bit[64];input c of 0:int[64];";
        e.same("words", e.built(ahead + "input d of 1:int[64];").look(5), 256);
        e.same("words", e.built(ahead + singles("input % of 1:bit;", 64)).look(5), 256);
        e.due(2, ahead + "input d of 1:int[64];input @e of 0:int;", ahead + "input d of 1:int[64];input @e of 0:bit[1];",
            ahead + "input d of 1:int[63];input @e of 0:bit[2];", ahead + singles("input % of 1:bit;", 64)
                + "input @e of 0:int;", ahead + "input d of 1:bit;input @e of 0:bit[64];");
        // Vars have words of their own.
        String vars = "var v:int[64];var w:int[64];var x:bit[64];var y:bit[64];";
        e.sound(vars + ahead + "input d of 1:int[64];", ahead + "input d of 1:int[64];" + vars);
        e.due(2, vars + ahead + "input d of 1:int[64];input @e of 0:bit;");
    }

    private static void varWords(Edges e) {
        String ahead = "var a:int[64];var b:bit[64];var c:int[64];";
        e.sound(ahead + "var d:int[64];", ahead + singles("var %:int;", 64), ahead + "var d:bit[63];var e:int;");
        e.due(2, ahead + "var d:int[64];var @e:int;", ahead + "var d:int[64];var @e:bit[1]=true;",
            ahead + singles("var %:bit;", 64) + "var @e:int;", ahead + "var d:bit[63];var @e:int[2];",
            ahead + "input i of 0:int[64];var d:int[64];input j of 0:int;var @e:int;");
        // Those count too that are visible no more; a loop's NAME, a PARAM, a turn more of a loop are no words.
        e.due(2, ahead + "if(true){var d:int[63];}else{var d:int;}var @e:int;",
            "for i=0to 1{var a:int[64];}for i=0to 1{var a:int[64];}if(true){var a:int[64];var b:int[64];}var @a:int;");
        e.sound(ahead + "def f(x:int,y:int):int=x;for i=0to 9{for j=0to 9{var d:int[64];}}output f(1,2);");
    }

    private static void behindType(Edges e) {
        for (String head : new String[] {"var %:", "input % of 0:"}) {
            String full = head.replace("%", "a") + "int[64];" + head.replace("%", "b") + "int[64];"
                + head.replace("%", "c") + "int[64];" + head.replace("%", "d") + "int[64];";
            String marked = full + head.replace("%", "@e");
            String plain = full + head.replace("%", "e");
            e.due(2, marked + "int $", marked + "bit", marked + "int;$", marked + "int[1]$", marked + "bit[64]",
                marked + "int=$", marked + "int]");
            e.due(1, plain + "@$", plain + "@;", plain + "int[@$", plain + "int[1@$", plain + "int[@", plain + "int[1@");
            e.due(2, plain + "int[@65]", plain + "int[@0]", plain + "int[@00000000001]");
        }
        String full = singles("input % of 0:bit[64];", 4);
        e.due(2, full + "input e of @2:int;", full + "input @abcdefghijklmnopq of 0:int;");
        e.due(1, full + "input e @f of 0:int;");
    }

    private static void sizeOrOne(Edges e) {
        e.same("words", e.built("input a of 0:int[5];input b of 0:bit[7];input c of 1:int;input d of 1:bit;").look(5), 14);
        e.sound("var a:bit[64];var b:bit[64];var c:bit[64];var d:bit[62];var e:int;var f:bit;");
        e.due(2, "var a:bit[64];var b:bit[64];var c:bit[64];var d:bit[62];var e:int;var f:bit;var @g:bit;");
    }

    private static void lowestNumber(Edges e) {
        String deep = "output " + "(".repeat(30);
        // 1 and 2 at one place.
        e.due(1, "output 1 @abcdefghijklmnopq;", "output 1 @4294967296;", "output 1 @00000000001;",
            "input a of 0:@abcdefghijklmnopq;", "input a @abcdefghijklmnopq 0:int;", "var a:int[@abcdefghijklmnopq];",
            "input a of @abcdefghijklmnopq:int;", "var @00000000001:int;", "@00000000001=1;", "for @4294967296=0to 1{}");
        // 1 and 3 at one place.
        e.due(1, deep + "1@(", deep + "1@[", deep + "1@!1", deep + "1@~1", deep + "@?", deep + "@{", deep + "@[",
            "if(true){".repeat(30) + "@{", "if(true){".repeat(30) + "@(", "if(true){".repeat(30) + "@-",
            "if(true){".repeat(30) + "if@{", "if(true){".repeat(30) + "x=1@{");
    }

    // ---- FAULT 3

    private static void nestedParens(Edges e) {
        e.sound("output " + "(".repeat(30) + "1" + ")".repeat(30) + ";");
        e.due(3, "output " + "(".repeat(30) + "@(1" + ")".repeat(31) + ";", "output " + "(".repeat(30) + "@(");
        e.sound("output " + "int(bit(".repeat(15) + "1" + ",0))".repeat(15) + ";");
        e.due(3, "output " + "int(bit(".repeat(15) + "int@(true)" + ",0))".repeat(15) + ";",
            "output " + "int(bit(".repeat(15) + "bit@(1,0)", "output int(" + "bit(int(".repeat(14) + "bit(bit@(");
        // The second one of a bit lies in its ( ) too.
        e.sound("output " + "bit(1,int(".repeat(15) + "false" + "))".repeat(15) + ";");
        e.due(3, "output " + "bit(1,int(".repeat(15) + "@(false");
        e.sound("if(" + "(".repeat(29) + "true" + ")".repeat(29) + "){}");
        e.due(3, "if(" + "(".repeat(29) + "@(true");
        e.sound("def f(x:int):int=x;output " + "f(".repeat(30) + "1" + ")".repeat(30) + ";");
        e.due(3, "def f(x:int):int=x;output " + "f(".repeat(30) + "f@(1)" + ")".repeat(30) + ";");
        e.sound("def f(x:int,y:int):int=x;output " + "f(1,".repeat(30) + "1" + ")".repeat(30) + ";");
        e.due(3, "def f(x:int,y:int):int=x;output " + "f(1,".repeat(30) + "f@(1,1)" + ")".repeat(30) + ";");
    }

    /** Wherever an EXPR may stand, and however much of them lies around it. */
    private static void nestedAnywhere(Edges e) {
        String[] places = {"output %;", "var a:int=%;", "var a:int[2]=%;", "var a:int;a=%;", "def f():int=%;", "for i=% to 1{}",
            "for i=0to %{}", "def f(x:int):int=x;output 1+%;", "output true?1:2;output 2*%;"};
        for (String place : places) {
            e.sound(place.replace("%", "(".repeat(30) + "1" + ")".repeat(30)), place.replace("%", "-".repeat(30) + "1"));
            e.due(3, place.replace("%", "(".repeat(30) + "@(1" + ")".repeat(31)), place.replace("%", "-".repeat(30) + "@-1"));
        }
        String[] within = {"var a:int[2];output a[%];", "var a:int[2];a[%]=1;", "def f(x:int):int=x;output f(%);",
            "output bit(%,0);", "output bit(1,%);", "output true?%:2;", "output true?1:%;", "if(1==%){}",
            "if(true){}else{var z:int=%;}", "if(true){var z:int=%;}", "for i=0to 1{var z:int=%;}", "output (%);", "output ~%;"};
        for (String place : within) {
            e.sound(place.replace("%", "(".repeat(29) + "1" + ")".repeat(29)));
            e.due(3, place.replace("%", "(".repeat(29) + "@(1" + ")".repeat(30)));
        }
    }

    private static void nestedCalls(Edges e) {
        String def = "def f():int=1;";
        e.sound(def + "output " + "(".repeat(29) + "f()" + ")".repeat(29) + ";");
        e.due(3, def + "output " + "(".repeat(30) + "f@()" + ")".repeat(30) + ";");
        e.due(3, "if(true){".repeat(30) + "var a:int=f@();");
    }

    private static void nestedIndexes(Edges e) {
        String var = "var a:int[2];";
        e.sound(var + "output " + "a[".repeat(30) + "1" + "]".repeat(30) + ";", var + "a[".repeat(30) + "0"
            + "]".repeat(30) + "=1;", var + "a[0]=" + "a[".repeat(30) + "0" + "]".repeat(30) + ";");
        e.due(3, var + "output " + "a[".repeat(30) + "a@[1]" + "]".repeat(30) + ";", var + "a[".repeat(30) + "a@[0]"
            + "]".repeat(30) + "=1;", var + "if(true){".repeat(30) + "a@[0]=1;", var + "output " + "(".repeat(30) + "a@[");
    }

    private static void nestedSigns(Edges e) {
        for (String sign : new String[] {"-", "~"}) {
            e.sound("output " + sign.repeat(30) + "1;", "output " + sign.repeat(29) + "(1);");
            e.due(3, "output " + sign.repeat(30) + "@" + sign + "1;", "output " + sign.repeat(30) + "@(1);",
                "output " + "(".repeat(30) + "@" + sign + "1", "if(true){".repeat(30) + "x=@" + sign + "1;");
        }
        e.sound("output " + "!".repeat(30) + "true;");
        e.due(3, "output " + "!".repeat(30) + "@!true;", "output " + "(".repeat(30) + "@!true");
        // With their FACTOR alone: what an operator joins to it lies in none of them.
        e.sound("output " + "-".repeat(30) + "1+(1)+" + "-".repeat(30) + "1-" + "(".repeat(30) + "1" + ")".repeat(30) + ";");
    }

    private static void nestedChoices(Edges e) {
        e.sound("output " + "true?".repeat(30) + "1" + ":2".repeat(30) + ";", "output " + "true?1:".repeat(30) + "2;",
            "output true?" + "(".repeat(29) + "1" + ")".repeat(29) + ":" + "(".repeat(29) + "2" + ")".repeat(29) + ";");
        e.due(3, "output " + "true?".repeat(30) + "true@?1:2" + ":2".repeat(30) + ";", "output " + "true?1:".repeat(30)
            + "true@?1:2;", "output true?" + "(".repeat(29) + "@(1", "output true?1:" + "(".repeat(29) + "@(1",
            "output " + "(".repeat(30) + "true@?1:2", "if(true){".repeat(30) + "x=true@?1:2;");
        // What stands ahead of the ? does not lie in it.
        e.sound("output " + "(".repeat(30) + "true" + ")".repeat(30) + "?1:2;");
    }

    private static String loops(int count) {
        return singles("for %=0to 0{", count);
    }

    private static void nestedBlocks(Edges e) {
        e.sound("if(true){".repeat(30) + "}".repeat(30), loops(30) + "}".repeat(30), "if(true){}else{".repeat(30)
            + "}".repeat(30));
        e.due(3, loops(30) + "for i=0to 0@{", loops(30) + "if@(true){", "if(true){".repeat(30) + "if@(true){",
            "if(true){}else{".repeat(30) + "if@(true){}", "if(true){".repeat(30) + "for i=0to 1@{}");
        // A ( ) ahead of a BLOCK lies beside it, and so do the bounds of a for.
        e.sound(loops(29) + "if(true){}else{}for i=(0)to(1){}" + "}".repeat(29), loops(30) + "var a:int;a=1;"
            + "}".repeat(30));
        e.due(3, loops(30) + "var a:int=@(1);", loops(30) + "for i=@(0)to 1{}", loops(29) + "if(true){}else{if@(true){}}");
    }

    private static void nestedElse(Edges e) {
        String chain = "if(true){}" + "else if(true){}".repeat(29);
        e.sound(chain, chain + "else{}", chain + chain);
        e.due(3, chain + "else if@(true){}", chain + "else{if@(true){}}");
        String shorter = "if(true){}" + "else if(true){}".repeat(28);
        e.sound(shorter + "else if(true){var a:int=1;}", shorter + "else if(true){}else{var a:int=1;}",
            shorter + "else{if(true){}}");
        e.due(3, shorter + "else if(@(true)){}", shorter + "else if(true){var a:int=@(1);}", shorter + "else{if(@(true)){}}",
            shorter + "else if(true){}else{var a:int=@-1;}");
        // Where it lies in BLOCKs.
        e.sound("if(true){".repeat(29) + "if(true){}else{}" + "}".repeat(29),
            "if(true){".repeat(28) + "if(true){}else if(true){}else{}" + "}".repeat(28));
        e.due(3, "if(true){".repeat(29) + "if(true){}else if@(true){}", "if(true){".repeat(28)
            + "if(true){}else if(true){}else if@(true){}");
    }

    private static void nestedMixed(Edges e) {
        List<String> open = new ArrayList<>(List.of("(", "-", "~", "int(!", "a[", "f(", "true?", "bit("));
        StringBuilder deep = new StringBuilder("if(true){}else if(true){for i=0to 0{x=");
        // Three so far: the if behind else, its BLOCK, that of the for.
        int depth = 3;
        for (int i = 0; depth < 30; i++) {
            String next = open.get(i % open.size());
            if (next.equals("int(!") && depth == 29) {
                next = "-";
            }
            deep.append(next);
            depth += next.equals("int(!") ? 2 : 1;
        }
        for (String more : new String[] {"@(", "@-", "@~", "@!", "int@(", "bit@(", "a@[", "f@(", "f@()", "true@?"}) {
            e.due(3, deep + more + "1");
        }
        e.due(1, deep + "1@$");
    }

    private static void notNested(Edges e) {
        // Beside one another as many as one likes; a def's head, an ARRAY's size, an if that is behind no else are none.
        e.sound("output (1)" + "+(1)".repeat(900) + ";", "output -1" + "+-1".repeat(1200) + ";",
            "output 1" + "+1".repeat(1990) + ";", "if(true){}else{}".repeat(240), "output true?1:2;".repeat(240));
        e.sound("def f(a:int,b:bit):int=" + "(".repeat(30) + "a" + ")".repeat(30) + ";");
        e.sound("if(true){".repeat(30) + "var a:int[3];" + "}".repeat(30), "if(true){".repeat(30) + "}".repeat(30)
            + "if(true){".repeat(30) + "}".repeat(30));
        e.sound("output " + "(".repeat(30) + "1" + ")".repeat(30) + "+" + "(".repeat(30) + "1" + ")".repeat(30) + ";");
        e.sound(("if(" + "(".repeat(29) + "true" + ")".repeat(29) + "){}").repeat(20));
    }
}
