/** The boundary cases of SORTS with FAULTS 4 to 6: one test for each sentence. */
public final class SortsEdgesTest {
    /** One of each: an int, a bit, ARRAYs of them, inputs, defs. */
    private static final String ALL = "var n:int;var p:bit;var a:int[3];var q:bit[2];input i of 0:int;input b of 1:bit;"
        + "input c of 0:int[2];def f(x:int,y:bit):int=x;def g():bit=true;";

    public static void main(String[] args) {
        Edges edges = new Edges("SortsEdgesTest", args);
        order(edges);
        names(edges);
        sorts(edges);
        edges.end();
    }

    private static void order(Edges edges) {
        edges.of("ifNone", "SORTS, if there was none", SortsEdgesTest::ifNone);
        edges.of("leftToRight", "the text is gone over from left to right", SortsEdgesTest::leftToRight);
        edges.of("operandsFirst", "what an operator (? : too) works on ahead of it", SortsEdgesTest::operandsFirst);
        edges.of("withinFirst", "what stands in ( ) or [ ] ahead of what must be said of it", SortsEdgesTest::withinFirst);
        edges.of("nameFirst", "but a NAME's own faults, the number of EXPRs of a call too, ahead of all",
            SortsEdgesTest::nameFirst);
        edges.of("fiveOfOne", "of one EXPR 5 ahead of 6", SortsEdgesTest::fiveOfOne);
        edges.of("exprByExpr", "what is wrong of an EXPR of a call ahead of the next one", SortsEdgesTest::exprByExpr);
        edges.of("fiveAtSign", "5 at a sign ahead of 6 behind it", SortsEdgesTest::fiveAtSign);
    }

    private static void names(Edges edges) {
        edges.of("comesIn", "4 a NAME that is visible already where it comes in", SortsEdgesTest::comesIn);
        edges.of("sameParam", "(or that a PARAM ahead of it in the same def has)", SortsEdgesTest::sameParam);
        edges.of("notVisible", "or is not visible where it is used (at it", SortsEdgesTest::notVisible);
        edges.of("varVisible", "a var, a loop's NAME, a PARAM's is visible from behind the ;", SortsEdgesTest::varVisible);
        edges.of("loopVisible", "the bounds, the head on, up to the end of its BLOCK, of its for",
            SortsEdgesTest::loopVisible);
        edges.of("paramVisible", "of its for, of its def", SortsEdgesTest::paramVisible);
        edges.of("inputVisible", "an input, a def from behind its ; on", SortsEdgesTest::inputVisible);
        edges.of("inDef", "in a def, its head too, there are visible, beside its PARAMs, the defs ahead of it alone",
            SortsEdgesTest::inDef);
    }

    private static void sorts(Edges edges) {
        edges.of("arrayAlone", "5 at the NAME: an ARRAY without [ ]", SortsEdgesTest::arrayAlone);
        edges.of("noArray", "[ ] of what is none", SortsEdgesTest::noArray);
        edges.of("defAlone", "a def without ( )", SortsEdgesTest::defAlone);
        edges.of("noDef", "( ) of what is none or", SortsEdgesTest::noDef);
        edges.of("otherNumber", "or with another number of EXPRs", SortsEdgesTest::otherNumber);
        edges.of("noVar", "something assigned to that is no var", SortsEdgesTest::noVar);
        edges.of("operators", "at the sign: an operator over another SORT", SortsEdgesTest::operators);
        edges.of("firstByte", "at an EXPR's first byte: an EXPR of another SORT than it must have",
            SortsEdgesTest::firstByte);
        edges.of("ints", "int: NUMBER, a loop's NAME, int (of a bit), - ~ + - * / % << >> of ints.", SortsEdgesTest::ints);
        edges.of("bits", "bit: true, false, bit (of two ints), < <= > >= of ints, == != of two of one SORT, ! && || of bits.",
            SortsEdgesTest::bits);
        edges.of("either", "& | ^ are of two of one SORT, and that", SortsEdgesTest::either);
        edges.of("choices", "so is what stands behind ? and : (the sign is the ?; ahead of it a bit)",
            SortsEdgesTest::choices);
        edges.of("conditions", "An index, a loop's bounds are ints, a condition a bit", SortsEdgesTest::conditions);
        edges.of("assigned", "what is assigned, told behind var, def or for a PARAM has the SORT said",
            SortsEdgesTest::assigned);
        edges.of("notPublic", "6 (at its first byte) an EXPR that must be PUBLIC and is not.", SortsEdgesTest::notPublic);
        edges.of("public", "PUBLIC are NUMBERs, true, false, loops' NAMEs, and all operators, int, bit, ( ), ? : over PUBLIC "
            + "ones alone", SortsEdgesTest::isPublic);
        edges.of("mustBePublic", "a loop's bounds, what stands right of << >>, the second one of bit must be",
            SortsEdgesTest::mustBePublic);
    }

    // ---- Which fault is the first

    private static void ifNone(Edges e) {
        e.due(1, "output zz;@$", "output 1+true;output@", "output 1<<9;@;");
        e.due(2, "output zz;var a:int[@65];", "output 1+true;output @4294967296;");
        e.due(3, "output zz;output " + "-".repeat(30) + "@-1;");
        e.due(4, "output 1<<8;output @zz;", "for i=0to 300{}@zz=1;");
        e.due(5, "output 1<<8;output 1@+true;");
        e.due(6, "var n:int;output 1<<8;output 1<<@n;");
    }

    private static void leftToRight(Edges e) {
        e.due(4, ALL + "output @yy;output zz;", ALL + "output @zz;output 1+true;", ALL + "output @zz;output 1<<n;");
        e.due(5, ALL + "output 1@+true;output zz;", ALL + "output 1@+true;output 1<<n;", ALL + "n=@true;zz=1;",
            ALL + "if(@1){zz=1;}", ALL + "if(p){n=@true;}else{zz=1;}", ALL + "var z:int=@true;output zz;",
            "def h():int=@true;output zz;", ALL + "for k=@true to zz{}", ALL + "if(@n){}else if(zz){}");
        e.due(6, ALL + "output 1<<@n;output zz;", ALL + "for k=@n to zz{}", ALL + "for k=@n to true{}",
            ALL + "for k=0to @n{zz=1;}", ALL + "output 1<<@n;output 1+true;");
        e.due(4, ALL + "for k=@zz to true{}", ALL + "for @n=zz to true{}", ALL + "var @n:int=zz;", ALL + "@zz=yy;");
    }

    private static void operandsFirst(Edges e) {
        for (String op : new String[] {"||", "&&", "|", "^", "&", "==", "!=", "<", "<=", ">", ">=", "<<", ">>", "+", "-",
            "*", "/", "%"}) {
            // Both of them ahead of the operator, the left one ahead of the right one.
            e.due(4, "output @yy" + op + "zz;", "output (1==1?true:false)" + op + "@zz;", "output (1+2)" + op + "@zz;");
            e.due(5, "output (1@+true)" + op + "(true+1);", "output 1" + op + "(1@+true);");
        }
        e.due(4, "output -@zz;", "output !@zz;", "output ~(true+@zz);", "output 1?@zz:2;", "output 1?2:@zz;",
            "output 1?true:@zz;", "output true?@zz:yy;", "output @zz?yy:xx;");
        e.due(5, "output 1?(1@+true):2;", "output 1?1:(1@+true);", "output -(1@+true);", "output (1@?1:2)?1:2;");
        e.due(6, ALL + "output 1?1<<@n:true;", ALL + "output 1?true:1+(1<<@n);");
        e.due(5, "output true@+1+zz;", "output true@*1+zz;", "output @-true+zz;");
        e.due(4, "output true+1*@zz;");
    }

    private static void withinFirst(Edges e) {
        e.due(4, ALL + "output int(1+@zz);", ALL + "output int(@zz);", ALL + "output bit(@zz,true);", ALL + "output a[@zz];",
            ALL + "output a[true&&@zz];", ALL + "a[true&&@zz]=1;", ALL + "if(1+@zz){}", ALL + "output f(true&&@zz,1);",
            ALL + "output -(true&&@zz);");
        e.due(5, ALL + "output a[true@+1];", ALL + "output int(1@+true);", ALL + "output a[@p]+true;", ALL
            + "output f(@true,true)+true;", ALL + "output int(@1)+true;", ALL + "output bit(@true,1)+1;");
        e.due(6, ALL + "output a[1<<@n]+true;", ALL + "output bit(n,@n)+1;", ALL + "output (1<<@n)+true;",
            ALL + "p=1<<@n;", ALL + "output a[bit(1,@n)];", ALL + "output int(1<<@n);");
    }

    private static void nameFirst(Edges e) {
        e.due(4, ALL + "output @zz[yy];", ALL + "output @zz(yy);", ALL + "@zz[yy]=xx;", ALL + "@zz=yy;",
            ALL + "output @zz(1+true);", ALL + "var @n:int=zz;", ALL + "for @n=zz to yy{}", ALL + "def @f(x:int):int=zz;",
            ALL + "def h(@f:int):int=zz;");
        e.due(5, ALL + "output @n[zz];", ALL + "output @n(zz);", ALL + "output @f(zz);", ALL + "output @f();",
            ALL + "output @f(zz,yy,xx);", ALL + "output @g(zz);", ALL + "@n[zz]=yy;", ALL + "@i=zz;", ALL + "@c[zz]=yy;",
            ALL + "@a=zz;", ALL + "@f=zz;", ALL + "@f[zz]=1;", ALL + "output @f(true+1);", ALL + "output @a(zz);",
            ALL + "output @f[zz];", ALL + "output @n[1<<n];", ALL + "output @f(true);");
    }

    private static void fiveOfOne(Edges e) {
        e.due(5, ALL + "output bit(1,@p);", ALL + "for k=@p to 1{}", ALL + "for k=0to @p{}", ALL + "output bit(1,@g());",
            ALL + "output bit(1,@(p));", ALL + "for k=0to @(n==1){}");
        e.due(6, ALL + "output bit(1,@n);", ALL + "for k=@n to 1{}", ALL + "for k=0to @n{}");
    }

    private static void exprByExpr(Edges e) {
        e.due(5, ALL + "output f(@true,zz);", ALL + "output f(@true,1);", ALL + "output f(1,@1);", ALL
            + "output bit(@true,zz);", ALL + "output bit(@p,n);", ALL + "output f(@p,1+true);", ALL + "output f(1@+true,zz);");
        e.due(4, ALL + "output f(@yy,zz);", ALL + "output f(1,@zz);", ALL + "output f(@zz,1);");
        e.due(6, ALL + "output f(1<<@n,1);", ALL + "output f(1<<@n,zz);", ALL + "output bit(1<<@n,zz);");
    }

    private static void fiveAtSign(Edges e) {
        e.due(5, ALL + "output p@<<n;", ALL + "output p@>>n;", ALL + "output 1@<<p;", ALL + "output 1@>>g();",
            ALL + "output p@<<p;", ALL + "output 1+(p@<<n);");
        e.due(6, ALL + "output 1<<@n;", ALL + "output n>>@n;");
        e.due(4, ALL + "output p<<@zz;");
    }

    // ---- FAULT 4

    private static void comesIn(Edges e) {
        String[] heads = {"input z of 0:int;", "var z:int;", "var z:bit[3];", "def z():int=1;"};
        for (String head : heads) {
            e.due(4, head + "input @z of 0:bit;", head + "var @z:int;", head + "def @z():int=1;", head + "for @z=0to 1{}",
                head + "if(true){var @z:bit;}", head + "for k=0to 1{var @z:bit;}", head + "if(true){for @z=0to 1{}}",
                head + "if(true){}else{var @z:int;}", head + "def @z(a:int,a:int):int=1;");
        }
        e.due(4, "for z=0to 1{var @z:int;}", "for z=0to 1{for @z=0to 1{}}", "for z=0to 1{if(true){var @z:int;}}",
            "def z():int=1;def y(@z:int):int=1;", "def z():int=1;def y(a:bit,@z:int):int=1;",
            "if(true){var z:int;if(true){var @z:int;}}", "if(true){var z:int;for @z=0to 1{}}");
        // What is visible no more, or not yet, may come in again.
        e.sound("if(true){var z:int;}else{var z:bit;}var z:int;", "for z=0to 1{}for z=0to 1{}var z:int;",
            "for z=0to 1{}def z():int=1;", "if(true){var z:int;}input z of 0:int;", "def y(z:int):int=z;var z:int;",
            "for k=0to 1{var z:int;}for z=0to 1{}", "def y(z:int):int=z;def x(z:bit):bit=z;",
            "if(true){if(true){var z:int;}var z:int;}var z:int;");
    }

    private static void sameParam(Edges e) {
        e.due(4, "def h(x:int,@x:int):int=1;", "def h(x:int,y:bit,@x:bit):int=1;", "def h(x:int,y:bit,@y:bit):int=1;",
            "def h(x:int,@x:int,x:int):int=zz;");
        e.sound("def h(x:int,X:int,xx:int):int=1;", "def h(x:int):int=1;def k(x:int):int=1;", "def h(h:int):int=h;");
        e.due(5, "def h(h:int):int=@h(1);");
    }

    private static void notVisible(Edges e) {
        e.due(4, "output @z;", "output @z[0];", "output @z(0);", "output @z();", "@z=1;", "@z[0]=1;", "if(@z){}",
            "for k=@z to 1{}", "for k=0to @z{}", "var a:int=@z;", "def h():int=@z;", "output 1+ @z;", "output 1<< @z;",
            "var zz:int;output @z;", "var z:int;output @zz;", "var z:int;output @Z;", "output int(@z);", "output bit(@z,1);",
            "output true?@z:1;", "output (@z);", "output -@z;");
    }

    private static void varVisible(Edges e) {
        e.due(4, "var z:int=@z;", "var z:int=1+@z;", "var z:int[2]=@z[0];", "if(true){var z:int;}@z=1;",
            "if(true){var z:int;}else{@z=1;}", "if(true){var z:int;}else if(@z==1){}", "for k=0to 1{var z:int;}@z=1;",
            "if(true){}else{var z:int;}output @z;", "@z=1;var z:int;", "if(true){if(true){var z:int;}@z=1;}",
            "if(true){}else if(true){var z:int;}else{@z=1;}");
        e.sound("var z:int;z=z;", "var z:int;if(true){z=1;}else{z=2;}for k=0to 1{z=k;}output z;",
            "if(true){var z:int;z=1;if(true){z=2;}z=3;}", "for k=0to 1{var z:int;z=k;}");
    }

    private static void loopVisible(Edges e) {
        e.due(4, "for k=@k to 1{}", "for k=0to @k{}", "for k=0to 1{}output @k;", "for k=0to 1{}for j=0to @k{}",
            "for k=0to 1{for j=0to 1{}var a:int=@j;}");
        e.sound("var a:int;for k=0to 1{a=k;for j=k to k+1{a=j+k;}if(k==1){a=k;}}");
    }

    private static void paramVisible(Edges e) {
        e.due(4, "def h(x:int):int=x;output @x;", "def h(x:int):int=x;def k():int=@x;", "def h(x:int):int=x;@x=1;");
        e.sound("def h(x:int,y:bit):int=y?x:x;output h(1,true);");
    }

    private static void inputVisible(Edges e) {
        e.due(4, "output @z;input z of 0:int;", "def z():int=@z();", "output @z();def z():int=1;",
            "def y():int=@z();def z():int=1;", "def z(x:int):int=@z(x);");
        e.sound("input z of 0:int;output z;", "def z():int=1;output z();", "def z():int=1;def y():int=z();output y();");
    }

    private static void inDef(Edges e) {
        e.due(4, "var z:int;def h():int=@z;", "input z of 0:int;def h():int=@z;", "var z:int[2];def h():int=@z[0];",
            "input z of 0:bit[2];def h():bit=@z[0];", "var z:int;def h(x:int):int=x+@z;",
            "def h():int=1;def k(@h:int):int=1;");
        e.sound("var z:int;def h(z:bit):bit=z;output z+1;", "input z of 0:int;def h(z:bit,y:int):bit=z;output z+1;",
            "def h():int=1;def k(x:int):int=h()+x;output k(1);", "var z:bit[3];def h(z:int):int=z;output z[0];");
        // Behind the def all is visible again, and its PARAMs are not.
        e.due(4, "var z:int;def h(y:int):int=y;output z;output @y;", "var z:int;def h():int=1;var @z:int;");
        e.due(5, "var z:bit;def h(z:int):int=z;output 1@+z;");
    }

    // ---- FAULT 5

    private static void arrayAlone(Edges e) {
        e.due(5, ALL + "output @a;", ALL + "output @q;", ALL + "output @c;", ALL + "@a=1;", ALL + "@q=true;",
            ALL + "output 1+@a;", ALL + "output f(@a,true);", "var a:int[1];output @a;", ALL + "output a[@a];",
            "input a of 0:bit[1];output @a;");
        e.sound(ALL + "output a[0];output q[1];output c[0];a[2]=1;q[1]=true;");
    }

    private static void noArray(Edges e) {
        e.due(5, ALL + "output @n[0];", ALL + "output @p[0];", ALL + "output @i[0];", ALL + "output @b[0];", ALL
            + "output @f[0];", ALL + "output @g[0];", ALL + "@n[0]=1;", ALL + "@p[0]=true;", ALL + "@f[0]=1;",
            ALL + "for k=0to 1{n=@k[0];}", "def h(x:int):int=@x[0];", ALL + "for k=0to 1{@k[0]=1;}", ALL + "@i[0]=1;");
    }

    private static void defAlone(Edges e) {
        e.due(5, ALL + "output @f;", ALL + "output @g;", ALL + "output 1+@f;", ALL + "n=@f;", ALL + "def h():bit=@g;",
            ALL + "output f(@f,true);", ALL + "if(@g){}");
    }

    private static void noDef(Edges e) {
        e.due(5, ALL + "output @n();", ALL + "output @n(1);", ALL + "output @p(true);", ALL + "output @a(0);",
            ALL + "output @i();", ALL + "output @c(0);", ALL + "for k=0to 1{n=@k();}", "def h(x:int):int=@x();");
    }

    private static void otherNumber(Edges e) {
        String defs = "def h0():int=1;def h1(x:int):int=x;def h3(x:int,y:int,z:int):int=x;";
        e.due(5, defs + "output @h0(1);", defs + "output @h1();", defs + "output @h1(1,2);", defs + "output @h3(1,2);",
            defs + "output @h3();", defs + "output @h3(1,2,3,4);", defs + "output 1+@h0(1,2,3);");
        e.sound(defs + "output h0();output h1(1);output h3(1,2,3);");
    }

    private static void noVar(Edges e) {
        e.due(5, ALL + "@i=1;", ALL + "@b=true;", ALL + "@c[0]=1;", ALL + "@f=1;", ALL + "@g=true;",
            ALL + "for k=0to 1{@k=1;}", ALL + "@c=1;", ALL + "if(p){@i=1;}", "input z of 0:bit[3];@z[1]=true;");
        e.sound(ALL + "n=1;p=true;a[0]=1;q[0]=true;");
    }

    private static void operators(Edges e) {
        for (String op : new String[] {"+", "-", "*", "/", "%", "<", "<=", ">", ">="}) {
            e.sound("output 1" + op + "2;");
            e.due(5, "output 1@" + op + "true;", "output true@" + op + "1;", "output true@" + op + "true;",
                "output 1 @" + op + " (1==1);");
        }
        for (String op : new String[] {"<<", ">>"}) {
            e.sound("output 1" + op + "2;");
            e.due(5, "output 1@" + op + "true;", "output true@" + op + "1;", "output true@" + op + "true;");
        }
        for (String op : new String[] {"&&", "||"}) {
            e.sound("output true" + op + "false;");
            e.due(5, "output 1@" + op + "true;", "output true@" + op + "1;", "output 1@" + op + "1;");
        }
        for (String op : new String[] {"&", "|", "^", "==", "!="}) {
            e.sound("output 1" + op + "2;output true" + op + "false;");
            e.due(5, "output 1@" + op + "true;", "output true@" + op + "1;");
        }
        e.sound("output -1;output ~1;output !true;");
        e.due(5, "output @-true;", "output @~true;", "output @!1;", "output -@!1;", "output !@-true;", "output @!-1;",
            "output 1+ @-true;", "output @!(1);");
    }

    private static void firstByte(Edges e) {
        e.due(5, ALL + "n=@true;", ALL + "n=  @p;", ALL + "n=@(true);", ALL + "n=@!p;",
            ALL + "n=@1==1;", ALL + "p=@1+1;", ALL + "p=@-1;", ALL + "p=@int(p);", ALL + "n=@bit(1,0);", ALL + "n=@q[0];",
            ALL + "n=@g();", ALL + "n=@p?p:p;", ALL + "n=@(1)==1;", ALL + "n=#\n@true;", ALL + "output a[ @1<2];",
            ALL + "output int(\n@(1)+1);", ALL + "if( @n+1){}", ALL + "for k= @p to 1{}", ALL + "output f( @p,p);");
    }

    private static void ints(Edges e) {
        for (String expr : new String[] {"1", "int(true)", "-1", "~1", "1+1", "1-1", "1*1", "1/1", "1%1", "1<<1", "1>>1",
            "(1)", "n", "a[0]", "i", "c[1]", "f(1,true)"}) {
            e.sound(ALL + "n=" + expr + ";");
            e.due(5, ALL + "p=@" + expr + ";");
        }
        e.sound(ALL + "for k=0to 1{n=k;}");
        e.due(5, ALL + "for k=0to 1{p=@k;}", "output int(@1);", ALL + "output int(@n);");
    }

    private static void bits(Edges e) {
        for (String expr : new String[] {"true", "false", "bit(1,1)", "1<1", "1<=1", "1>1", "1>=1", "1==1", "1!=1",
            "true==false", "true!=false", "!true", "true&&true", "true||true", "(true)", "p", "q[0]", "b", "g()"}) {
            e.sound(ALL + "p=" + expr + ";");
            e.due(5, ALL + "n=@" + expr + ";");
        }
        e.due(5, "output bit(@true,1);", "output bit(1,@true);", ALL + "output bit(@p,1);");
    }

    private static void either(Edges e) {
        for (String op : new String[] {"&", "|", "^"}) {
            e.sound(ALL + "n=1" + op + "n;p=true" + op + "p;");
            e.due(5, ALL + "p=@1" + op + "n;", ALL + "n=@true" + op + "p;", ALL + "output n@" + op + "p;");
        }
    }

    private static void choices(Edges e) {
        e.sound(ALL + "n=p?1:n;p=p?p:true;n=true?1:2;");
        e.due(5, ALL + "output n@?1:2;", ALL + "output p@?1:true;", ALL + "output p@?true:1;", ALL + "n=@p?p:p;",
            ALL + "p=@p?1:2;", ALL + "output n@?1:true;", ALL + "output (1)  @? 1:2;");
    }

    private static void conditions(Edges e) {
        e.sound(ALL + "output a[n];a[n]=1;for k=0to 1{}if(p){}else if(p){}");
        e.due(5, ALL + "output a[@p];", ALL + "a[@p]=1;", ALL + "for k=@true to 1{}", ALL + "for k=0to @true{}",
            ALL + "if(@n){}", ALL + "if(p){}else if(@n){}", ALL + "output q[@p];", ALL + "output c[@b];");
    }

    private static void assigned(Edges e) {
        e.due(5, ALL + "n=@p;", ALL + "p=@n;", ALL + "a[0]=@p;", ALL + "q[0]=@n;", "var z:int=@true;", "var z:bit=@1;",
            "var z:int[2]=@true;", "var z:bit[2]=@1;", "def h():int=@true;", "def h():bit=@1;", "def h(x:int):bit=@x;",
            ALL + "output f(@p,p);", ALL + "output f(n,@n);");
        e.sound(ALL + "n=n;p=p;a[0]=n;q[0]=p;var z:int[2]=n;var y:bit[2]=p;output f(n,p);");
    }

    // ---- FAULT 6

    private static void notPublic(Edges e) {
        for (String expr : new String[] {"n", "i", "a[0]", "c[1]", "f(1,true)", "int(p)", "int(g())", "(n)", "-n", "~n",
            "1+n", "n-n", "1*n", "int(bit(n,0))", "(p?1:2)", "(true?n:1)", "(true?1:n)", "int(q[0])", "int(n==1)",
            "int(1<n)", "int(p&&true)", "int(true||p)", "int(!p)", "(n&1)", "a[n]", "n%2", "n/2", "(n<<1)"}) {
            e.due(6, ALL + "output 1<<@" + expr + ";", ALL + "output n>> @" + expr + ";", ALL + "output bit(n,@" + expr
                + ");", ALL + "for k=@" + expr + " to 1{}", ALL + "for k=0to @" + expr + "{}");
        }
        e.due(6, "def h(x:int):int=1<<@x;", "def h(x:int):bit=bit(1,@x);", ALL + "output 1<<1<<@n<<1;",
            ALL + "output 1<<@1+n;", ALL + "output 1<<@1*n;", ALL + "output 1<<  @n;");
    }

    private static void isPublic(Edges e) {
        for (String expr : new String[] {"1", "int(true)", "int(false)", "k", "-1+2", "~0", "k+1", "1-k", "k*2", "k/1", "k%2",
            "(k<<1)", "(k>>1)", "(k)", "int(bit(k,0))", "(true?k:1)", "(k==1?0:k)", "(k&1)", "(k|1)", "(k^1)",
            "int(k<1)", "int(k<=1)", "int(k>1)", "int(k>=1)", "int(k==1)", "int(k!=1)", "int(!true)",
            "int(true&&false)", "int(true||false)", "int(true^(k==1))", "int((true))"}) {
            e.use(2, 32);
            e.sound(ALL + "for k=0to 1{n=1<<" + expr + "%8;p=bit(n," + expr + "%8);for j=" + expr + " to " + expr + "{n=j;}}");
        }
        // Of a call and of an element it makes no odds what they are of.
        e.due(6, ALL + "output 1<<@f(1,true);", ALL + "output 1<<@a[0];", ALL + "output bit(1,@f(0,false));");
    }

    private static void mustBePublic(Edges e) {
        e.due(6, ALL + "for k=@n to 1{}", ALL + "for k=0to @n{}", ALL + "output 1<<@n;", ALL + "output 1>>@n;",
            ALL + "output bit(1,@n);", ALL + "if(p){for k=@i to 1{}}");
        // None else must be: what stands left of a shift, the first one of bit, an index, a condition.
        e.sound(ALL + "output n<<1;output n>>1;output bit(n,1);output a[n];a[i]=n;if(b){}output p?n:i;output n/i;");
    }
}
