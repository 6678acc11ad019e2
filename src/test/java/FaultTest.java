/** FAULTS by hand (promises 4 and 5): each text has an @ where the fault is told; a text without one has none. */
public final class FaultTest {
    private static final Check CHECK = new Check("FaultTest");
    private static int parties = 2;
    private static int width = 8;

    public static void main(String[] args) {
        whatCannotStandInItems();
        whatCannotStandInExprs();
        wordsThatAreTooLarge();
        wordsOfInputsAndVars();
        exprsThatLieInOneAnother();
        blocksThatLieInOneAnother();
        namesThatAreVisible();
        namesThatAreNot();
        namesUsedWrongly();
        wrongSorts();
        notPublic();
        whichFaultIsFirst();
        numbersWhileBuilding();
        tooMuchToBuild();
        CHECK.end();
    }

    private static void due(int fault, String marked) {
        int place = marked.indexOf('@');
        String text = place < 0 ? marked : marked.substring(0, place) + marked.substring(place + 1);
        String told = text.length() > 90 ? text.substring(0, 40) + " .. " + text.substring(text.length() - 40) : text;
        ShareHouse house = new ShareHouse(parties, width);
        CHECK.same("end of " + told, Check.put(house, text), text.length());
        CHECK.same("compile of " + told, house.compile(), fault);
        CHECK.same("place in " + told, house.look(0), place);
        CHECK.same("look(12) of " + told, house.look(12), fault == 0 ? 1 : 0);
    }

    private static void all(int fault, String... texts) {
        for (String text : texts) {
            due(fault, text);
        }
    }

    private static void whatCannotStandInItems() {
        all(0, "", " \t\n# nothing at all", "# a\n#b\n\n", "output 1#;\n;", "for i = 0to 3{}",
            "for i=0to 1{}if(true){}else{}if(false){}else if(true){}output-1;output!true;output(1);",
            "var outputs:int;var _:bit;var A_9:int;outputs=1;_=true;A_9=2;var iff:int;var to3:int;");
        all(1, "@{ }", "@$", "@;", "@0to", "@- 1;", "@else {}", "@true = 1;", "@int = 1;", "output 1;@;", "output@",
            "input a @0:int;", "input a of @b:int;", "input a of 0 @;", "input a of 0:int @= 1;", "input@",
            "input a of 0:int; @of");
        all(1, "var @1:int;", "var @int:int;", "var @of:int;", "var a @int;", "var a:@word;", "var a:@[3];",
            "var a:int[@x];", "var a:int[@];", "var a:int[3@;", "var a:int[3]@[4];", "var a:int @1;", "var a:int =@;",
            "var a@;");
        all(1, "def @(a:int):int=1;", "def f @:int=1;", "def f(a@):int=1;", "def f(a:int @b:int):int=1;",
            "def f(a:int,@):int=1;", "def f(@,a:int):int=1;", "def f(a:int@[3]):int=1;", "def f() @int=1;",
            "def f():int@;", "def f():int@[3]=1;", "def f():int=1@", "def f():@f=1;");
        all(1, "if @true {}", "if (true @{}", "if (true) @;", "if (true) {} else @;", "if (@) {}", "if(true){ } @}",
            "if (true) {} else {} @else {}", "if (true) { @input a of 0:int; }", "if (true) { @def f():int=1; }",
            "if (true) {@");
        all(1, "for i=0 @2{}", "for i=0 to 1@;", "for @0 to 1{}", "for i @to 1{}", "for i=0 to 1{@", "for i=0@to3 {}",
            "for i = 1 to 2 @to 3 {}", "for i = 0 to 1 { @output 1; }");
        all(1, "x @+ 1;", "x@;", "x[1]@;", "x[1@;", "x@(1);", "x = 1@", "x = 1 @}", "x @");
    }

    private static void whatCannotStandInExprs() {
        all(0, "output 1<-1;output 1--1;output!!true;output- -1;output 1>>0>>0;output 1<=-1;output 1 == 1 == true;");
        all(1, "output ((1)@;", "output 1@", "output 1 # ;\n  @", "output 1 #;@", "output @;", "output 1 @2;",
            "output 1 +@;", "output 1 @$;", "output @\"a\";", "output @*1;", "output @+ 1;", "output !@;",
            "output a @= b;", "output a == @= b;", "output a<@>b;", "output 1 &&@& 2;", "output !@!=1;", "output 12@ab;",
            "output @if;", "output a@.b;", "output 1 @\\;", "output @{1};", "output 1 ||@| 1;", "output 1 <<@< 1;");
        all(1, "output f(1,@);", "output f(@,1);", "output f(1@;", "output f(1 @2);", "output f()@();",
            "output 1@(2);", "output (1@,2);", "output (@);", "output int @1;", "output bit @1;", "output bit(1@);",
            "output bit(1,2@,3);", "output int(true@,1);", "output int(@);", "output a[1@,2];", "output a[@];",
            "output a[1]@[2];", "output @[1];");
        all(1, "output 1 ? 2@;", "output 1 ? 2 : @;", "output 1 ? @: 2;", "output 1 ? @? 2 : 3;", "output 1@:2;",
            "output 1 ? 2 : 3 @: 4;");
    }

    private static void wordsThatAreTooLarge() {
        all(0, "var abcdefghijklmnop:int; output abcdefghijklmnop;", "output 4294967295; output 0000000001;",
            "input a of 1:int; input b of 0:int; input c of 0000000001:bit;",
            "var a:int[64]; var b:bit[1]; input c of 0:bit[64];");
        all(2, "var @abcdefghijklmnopq:int;", "input @abcdefghijklmnopq of 0:int;", "def @abcdefghijklmnopq():int=1;",
            "def f(@abcdefghijklmnopq:int):int=1;", "for @abcdefghijklmnopq=0 to 1{}", "@abcdefghijklmnopq $",
            "output @abcdefghijklmnopq(", "output @abcdefghijklmnopq[");
        all(1, "output 1 @abcdefghijklmnopq;", "var a @abcdefghijklmnopq;", "output 1 @12345678901;");
        all(2, "output @4294967296;", "output @9999999999;", "output @12345678901;", "output @00000000001;",
            "input a of @2:int;", "input a of @4294967295:int;", "input a of @99999999999:int;", "input a of @2 $",
            "var a:int[@0];", "var a:int[@65];", "input a of 0:int[@65];", "var a:bit[@12345678901];");
        parties = 16;
        all(0, "input a of 15:int;");
        all(2, "input a of @16:int;");
        parties = 2;
    }

    private static void wordsOfInputsAndVars() {
        String vars = "var a:int[64];var b:bit[64];var c:int[64];";
        due(0, vars + "var d:int[64];");
        due(0, vars + "var d:int[63];var e:bit;");
        due(0, vars + "var d:int[64];input e of 0:int;");
        due(2, vars + "var d:int[64];var @e:int;");
        due(2, vars + "var d:int[64];var @e:bit $");
        due(2, vars + "var d:int[64];var @e:int");
        due(2, vars + "var d:int[64];var @e:int[1] $");
        due(2, vars + "var d:int[64];var e:int[@65] = ");
        due(1, vars + "var d:int[64];var e:int[1 @$");
        due(1, vars + "var d:int[64];var e:@word;");
        due(2, vars + "var d:int[63];var @e:int[2];");
        due(2, vars + "if(true){var d:int[64];}var @e:int;");
        due(2, "for i=0to 1{var a:int[64];}for i=0to 1{var a:int[64];}for i=0to 1{var a:int[64];}"
            + "for i=0to 1{var a:int[64];var @b:bit;}");
        String inputs = "input a of 0:int[64];input b of 1:bit[64];input c of 0:int[64];";
        due(0, inputs + "input d of 1:int[64];var x:int[64];");
        due(2, inputs + "input d of 1:int[64];input @e of 0:bit;");
        due(2, inputs + "input d of 1:bit;input @e of 0:bit[64];");
    }

    private static void exprsThatLieInOneAnother() {
        due(0, "output " + "(".repeat(30) + "1" + ")".repeat(30) + ";");
        due(3, "output " + "(".repeat(30) + "@(1" + ")".repeat(31) + ";");
        due(3, "output " + "(".repeat(30) + "@(");
        due(1, "output " + "(".repeat(30) + "@)");
        due(0, "output " + "-".repeat(30) + "1;");
        due(3, "output " + "-".repeat(30) + "@-1;");
        due(3, "output " + "!~".repeat(15) + "@-1;");
        due(3, "output " + "(".repeat(30) + "@!true;");
        due(0, "def f(x:int):int=x;output " + "f(".repeat(30) + "1" + ")".repeat(30) + ";");
        due(3, "output " + "f(".repeat(30) + "f@(1");
        due(0, "def f():int=1;output " + "(".repeat(29) + "f()" + ")".repeat(29) + ";");
        due(3, "def f():int=1;output " + "(".repeat(30) + "f@()");
        due(0, "var a:int[2];output " + "a[".repeat(30) + "1" + "]".repeat(30) + ";");
        due(3, "output " + "a[".repeat(30) + "a@[1");
        due(0, "var a:int[2];" + "a[".repeat(30) + "1" + "]".repeat(30) + "=1;");
        due(3, "var a:int[2];" + "a[".repeat(30) + "a@[1" + "]".repeat(31) + "=1;");
        due(3, "output " + "int(".repeat(30) + "int@(1");
        due(3, "output " + "bit(".repeat(30) + "bit@(1,1");
        due(3, "output " + "bit(1,".repeat(30) + "bit@(1,1");
        due(0, "output " + "true?1:".repeat(30) + "2;");
        due(3, "output " + "true?1:".repeat(30) + "true@?1:2;");
        due(0, "output " + "true?".repeat(30) + "1" + ":2".repeat(30) + ";");
        due(3, "output " + "true?".repeat(30) + "true@?1:2");
        due(0, "output " + "(".repeat(30) + "true" + ")".repeat(30) + "?1:2;");
        due(0, "output " + "1+".repeat(1990) + "1;");
        due(0, "output (1 == 1) ? 2 : 3;".repeat(100));
    }

    private static void blocksThatLieInOneAnother() {
        StringBuilder loops = new StringBuilder();
        for (int i = 0; i < 30; i++) {
            loops.append("for k").append(i).append("=0 to 0{");
        }
        due(0, loops + "}".repeat(30));
        due(3, loops + "for k=0 to 0@{");
        due(3, loops + "if@(true){");
        due(3, "var x:int;" + loops + "x=@(1);");
        due(0, "var x:int;" + loops + "x=1;" + "}".repeat(30));
        due(0, "if(true){".repeat(30) + "}".repeat(30));
        due(3, "if(true){".repeat(30) + "if@(true){");
        due(0, "if(true){}" + "else if(true){}".repeat(29) + "else{}");
        due(3, "if(true){}" + "else if(true){}".repeat(29) + "else if@(true){}");
        due(3, "if(true){}" + "else if(true){}".repeat(28) + "else if(true){if@(true){}}");
        due(0, "if(true){}else{}".repeat(100));
    }

    private static void namesThatAreVisible() {
        all(0, "for i=0to 1{}for i=0to 1{}", "if(true){var a:int;}else{var a:bit;}var a:int[2];",
            "for i=0to 1{var a:int;}var a:int;", "var x:int;def f(x:bit):bit=x;input g of 0:int;def h(g:int):int=g;",
            "def f(f:int):int=f;output f(1);", "for i=0to 1{}var i:int;", "def f(a:int):int=a;def g(a:int):int=f(a);",
            "for i=0to 1{}def i():int=1;");
        all(4, "var a : int; var @a : bit;", "input a of 0:int;var @a:int;", "var a:int;input @a of 0:int;",
            "input a of 0:int; input @a of 1:bit;", "def f():int=1;var @f:int;", "def f():int=1;def @f():int=1;",
            "var f:int;def @f():int=1;", "input f of 0:int;def @f():int=1;", "def f(x:int,@x:int):int = x;",
            "def f():int=1;def g(@f:int):int=f;", "var i:int;for @i=0to 1{}", "for i=0to 1{for @i=0to 1{}}",
            "for i=0to 1{var @i:int;}", "var a:int;if(true){var @a:int;}", "def f():int=1;for @f=0 to 1{}",
            "var a:int;var @a:int=b;", "def f(a:int,b:int,@a:bit):int=c;", "var f:int;def @f(a:int,a:int):int=1;");
    }

    private static void namesThatAreNot() {
        all(4, "@x = 1;", "@a[1] = 2;", "output @x;", "output @f(1);", "output @a[0];", "output 1 << @a;",
            "var a:int=@a;", "for i=@i to 1{}", "for i=0to @i{}", "for i=0to 1{}output @i;",
            "if(true){var a:int;}output @a;", "if(true){var a:int;}else{@a=1;}", "for i=0to 1{var a:int;}@a=1;",
            "def f():int=@f();", "def f():int=@g();def g():int=1;", "output @f();def f():int=1;",
            "output @a;input a of 0:int;", "var a:int;def f():int=@a;", "input a of 0:int;def f(b:int):int=b+@a;",
            "def f(a:int):int=a;output @a;", "@x=y;", "output @A;var a:int;",
            "var ab:int;output @a;", "var a:int;output @ab;");
    }

    private static void namesUsedWrongly() {
        String vars = "var s:int;var a:int[3];input i of 0:int;input b of 1:bit[2];def f(x:int):int=x;";
        all(5, vars + "output @a;", vars + "output @b;", vars + "output @s[0];", vars + "output @i[0];",
            vars + "output @f;", vars + "output @f[0];", vars + "output @s(1);", vars + "output @a(1);",
            vars + "output @f();", vars + "output @f(1,2);", vars + "@a=1;", vars + "@s[0]=1;", vars + "@i=1;",
            vars + "@b[0]=true;", vars + "@f=1;", vars + "@f[0]=1;", vars + "for k=0to 1{@k=1;}",
            vars + "for k=0to 1{s=@k[0];}", vars + "for k=0to 1{s=@k();}", vars + "def g(x:int):int=@x[0];",
            vars + "def g(x:int):int=@x(0);", vars + "def g(x:int):int=@f;", vars + "@b=true;");
        all(0, vars + "a[0]=s;a[i]=f(s);s=a[1];s=int(b[1]);s=f(f(i));");
        // Of what is in ( ) or [ ] nothing is told ahead of the NAME's own faults.
        all(5, vars + "output @s[zz];", vars + "output @s(zz);", vars + "output @f(zz,1);", vars + "@s[zz]=1;",
            vars + "@i[true]=1;", vars + "output @f(true,true);");
    }

    private static void wrongSorts() {
        String vars = "var n:int;var p:bit;var a:int[3];var q:bit[2];def f(x:int,y:bit):bit=y;";
        all(5, "output 1 @+ true;", "output true @- 1;", "output true @* true;", "output 1 @/ true;",
            "output true @% 1;", "output 1 @& true;", "output true @| 1;", "output 1 @^ false;", "output 1 @&& true;",
            "output true @|| 1;", "output 1 @|| 1;", "output 1 @== true;", "output false @!= 1;", "output true @< 1;",
            "output 1 @<= true;", "output true @> true;", "output 1 @>= true;", "output true @<< 1;",
            "output 1 @>> true;", "output @-true;", "output @~true;", "output @!1;", "output 1 @? 2 : 3;",
            "output true @? 1 : false;", "output int(@1);", "output bit(@true, 1);", "output bit(1, @true);",
            "output 1 < 2 @< 3;", "output int(@(1));", "output int( @1+1);");
        all(5, vars + "n = @true;", vars + "n=@p;", vars + "p=@n;", vars + "p = @1 + 2;", vars + "a[@true]=1;",
            vars + "a[0]=@true;", vars + "q[0]=@a[0];", vars + "output a[@p];", vars + "output f(@true,true);",
            vars + "output f(1,@1);", vars + "if(@n){}", vars + "if(true){}else if(@1){}", vars + "for i=@true to 1{}",
            vars + "for i=0to @true{}", vars + "var z:int=@true;", vars + "var z:bit=@1;", vars + "var z:int[2]=@p;",
            vars + "var z:bit[2]=@n;", "def g():int=@true;", "def g(x:int):bit=@x;", "def g(x:bit):int=1+2@+x;");
        all(0, vars + "output 1&2;output true&p;output n^1;output p^q[0];output n|n;output p|p;output 1==2;"
            + "output p==true;output p!=q[1];output n!=1;output p?n:1;output p?p:true;output int(p)+n;"
            + "output bit(n,1)&&p;output f(n,p)||!p;");
    }

    private static void notPublic() {
        String vars = "var n:int;var p:bit;var a:int[3];input i of 0:int;def f(x:int):int=x;";
        all(6, vars + "output 1 << @n;", vars + "output 1 >> @i;", vars + "output bit(1,@n);",
            vars + "for k=@n to 2{}", vars + "for k=0to @i{}", vars + "output 1<<@f(1);", vars + "output 1<<@a[0];",
            vars + "output 1<<@n-n;", vars + "output 1<<@(1+n);", vars + "output 1<<@-n;", vars + "output 1<<@int(p);",
            vars + "output 1<<@(p?1:2);", vars + "output 1<<@(true?1:n);", vars + "output 1<<@1+2*n;",
            "def g(x:int):int=1<<@x;", vars + "output bit(1,@int(bit(n,0)));", vars + "output 1<<1<<@n<<1;",
            vars + "output n<<@n;", vars + "output bit(1, @n);");
        all(0, vars + "for k=1+1 to 2*2{n=n<<k;p=bit(n,k-1);n=n>>(k==2?1:0);n=n<<int(bit(k,0)&&true||!false);}"
            + "for k=-1 to ~0{}for j=0to(7){n=1<<j;for k=j to j+1{n=n>>k%8;}}output a[n];a[n]=1;");
    }

    private static void whichFaultIsFirst() {
        // 1 to 3 ahead of all others, wherever they are.
        all(1, "output zz; @,", "x=1;output 1+true;output @;", "var a:int;var a:int;@$");
        // What an operator works on ahead of it, from left to right.
        all(4, "output true+@zz;", "output true?1:@zz;", "output 1?@yy:zz;", "output -(true+@zz);",
            "output (1==1)+@zz;", "output 1 == @zz;", "var n:int;output n<<@zz;");
        all(5, "output true@+1+zz;", "output @-true+zz;", "output (1@?1:2)+zz;");
        // An EXPR of a call ahead of the next one; of one EXPR 5 ahead of 6; 5 at a sign ahead of 6 behind it.
        String vars = "var n:int;var p:bit;def f(x:int,y:int):int=x;";
        all(5, vars + "output f(@true,zz);", vars + "output bit(@true,zz);", vars + "output bit(@p,n);",
            vars + "output bit(1,@p);", vars + "for k=@p to zz{}", vars + "output p@<<n;", vars + "output 1@<<p;",
            vars + "n=@p;n=zz;", vars + "if(@n){n=zz;}", vars + "output 1+(p@<<n);");
        all(6, vars + "for k=@n to zz{}", vars + "for k=@n to true{}", vars + "output bit(n,@n)+1;",
            vars + "output (1<<@n)+true;", vars + "output bit(1,@n)==1;");
        all(4, vars + "output f(1,@zz)+true;", vars + "for k=0to 1{n=@zz;}n=true;", vars + "output p<<@zz;",
            vars + "output bit(n,@zz);", vars + "for @n=zz to 1{}");
        // Sorts ahead of what building tells.
        all(5, "output 1<<9;output 1@+true;", "for i=0to 300{}output @-true;");
    }

    private static void numbersWhileBuilding() {
        String vars = "var n:int;var a:int[3];input b of 0:bit[2];";
        all(7, vars + "output a[@3];", vars + "output b[@2];", vars + "a[@3]=1;", vars + "output a[ @1+2];",
            vars + "output a[@-1];", vars + "output 1<<@8;", vars + "output n>>@(9);", "output bit(3, @9);",
            vars + "for i=0to 3{n=a[@i];}", vars + "n=n<<1<<@8<<1;", vars + "output a[@(true?5:1)];",
            "output 1<<@1-2;", "output bit(1,@255);", "def f(x:int):int=x<<@8;output f(1);", vars + "a[@3]=1<<8;",
            vars + "a[n]=1<<@8;", vars + "if(true){n=1;}else{n=a[@7];}", vars + "if(false){n=a[@7];}",
            vars + "output true?1:1<<@8;", vars + "output a[@3]+a[4];");
        all(0, "for i = 0 to 300 { }", "output 1<<256;output bit(1,256+7);", "var a:int[3];output a[258];a[256]=1;",
            "def f(x:int):int=x<<8;", "for i=1to 0{}",
            "var n:int;for i=1to 0{n=1<<8;}", "for i=0to 255{}", "for i=255to 0{}", "for i=255to 255{}");
        width = 9;
        all(0, "for i=0to 255{}", "for i=256 to 511{}", "for i=1to 256{}");
        all(7, "@for i=0to 256{}", "@for i=1 to 511{}", "var n:int;if(true){@for i=0to 300{n=n;}}",
            "@for i=0to -1{}");
        width = 32;
        all(0, "for i=4294967295 to 4294967295{}", "for i=4294967040to 4294967295{}", "output 1<<31;",
            "for i=2147483647 to 2147483648{}");
        all(7, "@for i=0 to 4294967295{}", "output 1<<@32;", "output bit(1,@4294967295);",
            "@for i=4294967039to 4294967295{}", "var a:int[64];output a[@4294967295];");
        width = 1;
        all(0, "output 1<<2;output bit(1,0);", "var a:int[2];output a[1];", "var a:int[1];output a[2];");
        all(7, "output 1<<@1;", "output 1>>@3;", "output bit(0,@1);", "var a:int[1];output a[@1];");
        width = 8;
    }

    private static void tooMuchToBuild() {
        // The 100,001st STEP, in whatever it comes.
        String sum = "1" + "+1".repeat(96);
        due(8, "var x:int;for i=0to 255{for j=0to 3{@x=" + sum + ";}}");
        due(8, "var x:bit;for i=0to 255{for j=0to 255{@if(x){}}}");
        due(8, "var x:bit;for i=0to 255{for j=0to 255{if(true){}else @if(x){}}}");
        due(8, "var x:int;for i=0to 255{for j=0to 255{var y:int;@x=" + "(".repeat(9) + "1" + ")".repeat(9) + ";}}");
        due(8, "def f():int=" + sum + ";var x:int;for i=0to 255{for j=0to 255{@x=f();}}");
        // One LEVEL a turn: 2,000 of them are well, and an XOR behind them has no more.
        String bits = "input p of 0:bit;var q:bit=p;input r of 1:bit;";
        due(0, bits + "for i=0to 249{for j=0to 7{q=!(q&&r);}}");
        due(8, bits + "for i=0to 250{for j=0to 7{@q=!(q&&r);}}");
        due(8, bits + "for i=0to 249{for j=0to 7{q=!(q&&r);}}@output q&&p;");
        due(0, bits + "for i=0to 249{for j=0to 7{q=!(q&&r);}}output q^p;");
        due(8, bits + "for i=0to 249{for j=0to 7{q=!(q&&r);}}var z:bit;@if(q){z=p;}else{z=r;}");
        // The 40,001st GATE.
        width = 32;
        String ints = "input a of 0:int;input b of 1:int;var c:int=a;";
        due(8, ints + "for i=0to 255{@c=c*b;}");
        due(8, ints + "for i=0to 5{for j=0to 3{c=c^b;}@c=a/b;}");
        due(8, ints + "for i=0to 255{c=a;@if(a<b){c=b;}}");
        due(8, "def f(x:int,y:int):int=x/y;" + ints + "output f(a,b);output f(a,b);output f(a,b);output f(a,b);"
            + "@output f(a,b);output f(a,b);");
        width = 8;
    }
}
