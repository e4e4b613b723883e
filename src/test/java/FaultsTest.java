/** Terms 3 and 4 (promises 3 and 4): the faults behind SYNTAX, and which of them is told. */
public final class FaultsTest {
    private FaultsTest() {
    }

    public static void main(String[] args) {
        twice();
        circles();
        asTokensCome();
        tags();
        strong();
        soft();
        meekAndWeak();
        clauses();
        calls();
        operations();
        order();
        Check.end();
    }

    private static void twice() {
        Check.faulty("MODE A=INT;MODE A=INT;1", 2, 16);
        Check.faulty("PRIO A=1;PRIO A=1;1", 2, 14);
        Check.faulty("MODE A=INT;(MODE A=BOOL;1)", 2, 17);
        Check.faulty("PRIO B=1;MODE A=INT;PRIO B=2;MODE A=INT;1", 2, 25);
        Check.faulty("INT a=1;INT a=2;1", 2, 12);
        Check.faulty("INT a=1;LOC BOOL a;1", 2, 17);
        Check.good("INT a=1;(INT a=2;a)");
        Check.faulty("LOC STRUCT(INT a,BOOL a)b;1", 2, 22);
        Check.faulty("(INT a,INT b,INT a)INT:1", 2, 17);
        Check.good("OP +=(INT a,INT b)INT:1;OP +=(INT a,INT b)INT:2;1");
    }

    private static void circles() {
        Check.faulty("MODE A=A;1", 4, 5);
        Check.faulty("MODE A=REF A;1", 4, 5);
        Check.faulty("MODE A=[]A;1", 4, 5);
        Check.faulty("MODE A=PROC A;1", 4, 5);
        Check.faulty("MODE A=PROC(A)INT;1", 4, 5);
        Check.faulty("MODE A=UNION(INT,A);1", 4, 5);
        Check.faulty("MODE A=STRUCT(A a);1", 4, 5);
        Check.faulty("MODE A=STRUCT(INT a,UNION(A,INT)b);1", 4, 5);
        Check.good("MODE A=STRUCT(REF A a);1");
        Check.good("MODE A=STRUCT([]A a);1");
        Check.good("MODE A=STRUCT(PROC(A)INT a);1");
        Check.good("MODE A=REF STRUCT(A a);1");
        Check.faulty("MODE B=INT;MODE A=STRUCT(C c);MODE C=STRUCT(A a);1", 4, 16);
        Check.good("MODE A=STRUCT(B b);MODE B=REF A;1");
        Check.faulty("MODE A=STRUCT(REF A a,REF B b);MODE B=REF B;1", 4, 36);
        Check.faulty("MODE A=REF B;MODE B=STRUCT(REF A a,B b);1", 4, 18);
    }

    private static void asTokensCome() {
        Check.faulty("VOID a=1;1", 4, 0);
        Check.faulty("LOC VOID a;1", 4, 4);
        Check.faulty("MODE A=VOID;1", 4, 7);
        Check.faulty("MODE A=REF VOID;1", 4, 11);
        Check.faulty("MODE A=PROC(VOID)INT;1", 4, 12);
        Check.faulty("MODE A=STRUCT(VOID a);1", 4, 14);
        Check.faulty("(VOID a)INT:1", 4, 1);
        Check.faulty("CASE UNION(INT,BOOL)(1)WHEN(VOID a):1 ESAC", 4, 28);
        Check.good("VOID:1;VOID(1);PROC VOID a=SKIP;1");
        Check.faulty("LOC UNION(INT)a;1", 4, 4);
        Check.faulty("LOC UNION(INT,INT)a;1", 4, 4);
        Check.faulty("LOC UNION(VOID,INT)a;1", 4, 10);
        Check.faulty("LOC UNION(VOID,VOID)a;1", 4, 4);
        Check.faulty("LOC UNION(INT,REF INT)a;1", 4, 4);
        Check.faulty("LOC UNION(REF PROC INT,INT)a;1", 4, 4);
        Check.good("LOC UNION(INT,PROC(INT)INT)a;1");
        Check.good("MODE A=UNION(INT,BOOL);LOC UNION(A)a;1");
        Check.faulty("MODE A=UNION(INT,BOOL);LOC UNION(A,REF BOOL)a;1", 4, 27);
        Check.good("MODE A=UNION(INT,BOOL);LOC UNION(INT,REF A)a;1");
        Check.faulty("MODE A=STRUCT(REF A a);MODE B=STRUCT(REF B a);LOC UNION(A,B)c;1", 4, 50);
        Check.faulty("LOC STRUCT(INT a,INT a)b;LOC VOID c;1", 2, 21);
        Check.faulty("LOC VOID c;LOC STRUCT(INT a,INT a)b;1", 4, 4);
        Check.faulty("x;LOC VOID c;1", 4, 6);
    }

    private static void tags() {
        Check.faulty("a", 3, 0);
        Check.faulty("(INT a=1;a);a", 3, 12);
        Check.good("a;INT a=1;a");
        Check.good("(INT a)INT:a");
        Check.faulty("FOR i TO i DO 1 OD", 3, 9);
        Check.good("FOR i TO 1 WHILE i=1 DO i OD");
        Check.faulty("FOR i TO 1 DO i OD;i", 3, 19);
        Check.good("CASE UNION(INT,BOOL)(1)WHEN(INT a):a,(BOOL b):b ESAC");
        Check.faulty("CASE UNION(INT,BOOL)(1)WHEN(INT a):1,(BOOL b):a ESAC", 3, 46);
        Check.faulty("CASE UNION(INT,BOOL)(1)WHEN(INT a):1 OUT a ESAC", 3, 41);
        Check.faulty("IF INT a=1;TRUE THEN a FI", 3, 21);
        Check.faulty("STRUCT(INT a,INT b)s=(1,2);c OF s", 3, 27);
    }

    private static void strong() {
        Check.faulty("INT a=TRUE;1", 5, 6);
        Check.faulty("INT a=1=2;1", 5, 7);
        Check.faulty("LONG a=1;INT b=a;1", 5, 15);
        Check.good("LONG a=1;[]LONG b=1;[][]INT c=1;1");
        Check.faulty("LONG a=(1,2);1", 5, 7);
        Check.faulty("UNION(LONG,BOOL)a=1;1", 5, 18);
        Check.good("UNION(LONG,BOOL)a=LONG 1;UNION(LONG,BOOL,INT)b=a;1");
        Check.faulty("UNION(LONG,BOOL,INT)a=1;UNION(LONG,BOOL)b=a;1", 5, 42);
        Check.faulty("UNION([]INT,BOOL)a=1;1", 5, 19);
        Check.faulty("INT a=NIL;1", 5, 6);
        Check.faulty("NIL;1", 5, 0);
        Check.faulty("(1,2);1", 5, 0);
        Check.faulty("(1,2)", 5, 0);
        Check.faulty("1;NIL", 5, 2);
        Check.good("SKIP;INT a=SKIP;SKIP");
        Check.good("REF INT a=NIL;1");
        Check.faulty("[]REF INT a=NIL;1", 5, 12);
        Check.good("[]REF INT a=(NIL,NIL);1");
        Check.faulty("STRUCT(INT a)b=1;1", 5, 15);
        Check.faulty("STRUCT(INT a,INT b)c=(1,2,3);1", 5, 21);
        Check.faulty("STRUCT(INT a,BOOL b)c=(1,2);1", 5, 25);
        Check.good("STRUCT(INT a,[]BOOL b)c=(1,TRUE);1");
        Check.faulty("[]INT a=(1,TRUE);1", 5, 11);
        Check.faulty("PROC INT a=1;1", 5, 11);
        Check.good("PROC INT a=INT:1;INT b=a;1");
        Check.faulty("INT:TRUE", 5, 4);
        Check.faulty("INT(TRUE)", 5, 4);
        Check.faulty("LOC INT a:=TRUE;1", 5, 11);
        Check.faulty("LOC INT a;a:=TRUE", 5, 13);
        Check.faulty("REF INT a=1;1", 5, 10);
        Check.good("REF INT a=LOC INT;LOC REF INT b:=a;INT c=b;1");
    }

    private static void soft() {
        Check.faulty("1:=1", 5, 0);
        Check.faulty("NIL:=1", 5, 0);
        Check.faulty("(SKIP):=1", 5, 1);
        Check.good("LOC INT a;PROC REF INT b=REF INT:a;b:=1");
        Check.faulty("LOC PROC REF INT b;1;b:=LOC INT", 5, 24);
        Check.faulty("1 IS NIL", 5, 0);
        Check.faulty("NIL IS NIL", 5, 7);
        Check.good("LOC INT a;NIL IS a;a IS(SKIP);a IS(NIL)");
        Check.faulty("LOC INT a;(SKIP)IS a", 5, 11);
        Check.faulty("LOC INT a;(NIL)ISNT a", 5, 11);
        Check.faulty("LOC INT a;a IS 1", 5, 15);
        Check.faulty("LOC INT a;LOC BOOL b;a IS b", 5, 26);
        Check.good("LOC INT a;LOC REF INT b;a IS b;1");
        Check.faulty("LOC INT a;LOC REF INT b;b IS a;1", 5, 29);
        Check.good("LOC INT a;PROC REF INT b=REF INT:a;b IS a;a IS b");
    }

    private static void meekAndWeak() {
        Check.faulty("IF 1 THEN 1 FI", 5, 3);
        Check.faulty("WHILE 1 DO 1 OD", 5, 6);
        Check.faulty("TO TRUE DO 1 OD", 5, 3);
        Check.faulty("FROM LONG 1 DO 1 OD", 5, 5);
        Check.faulty("CASE TRUE IN 1,2 ESAC", 5, 5);
        Check.faulty("LOC[1:TRUE]INT;1", 5, 6);
        Check.faulty("CASE 1 WHEN(INT a):1 ESAC", 5, 5);
        Check.faulty("PRINT(NIL)", 5, 6);
        Check.faulty("PRINT([]INT(1))", 5, 6);
        Check.good("LOC REF PROC BOOL a;PRINT(a);IF a THEN 1 FI");
        Check.faulty("1[1]", 5, 0);
        Check.faulty("LOC[]INT a;a[TRUE]", 5, 13);
        Check.faulty("LOC[]INT a;a[1:TRUE]", 5, 15);
        Check.faulty("UPB 1", 5, 4);
        Check.faulty("UPB(1,2)", 5, 3);
        Check.faulty("a OF 1", 5, 5);
        Check.good("LOC REF REF[]INT a;a[1];UPB a;LOC PROC STRUCT(INT b)c;b OF c");
    }

    private static void clauses() {
        Check.faulty("1+(1;SKIP)", 5, 3);
        Check.faulty("1+IF TRUE THEN SKIP ELSE NIL FI", 5, 2);
        Check.faulty("PRINT(IF TRUE THEN 1 ELSE TRUE FI)", 5, 26);
        Check.good("PRINT(IF TRUE THEN SKIP ELSE 1 FI)");
        Check.faulty("PRINT(CASE 1 IN 1,(2;TRUE),NIL ESAC)", 5, 21);
        Check.good("LONG a=IF TRUE THEN 1 ELSE LONG 2 FI;1");
        Check.faulty("LONG a=IF TRUE THEN 1 ELSE TRUE FI;1", 5, 27);
        Check.faulty("PRINT(LONG 1+IF TRUE THEN 1 ELSE LONG 1 FI)", 5, 33);
        Check.good("PRINT(LONG 1+IF TRUE THEN LONG 1 ELSE 1 FI)");
        Check.faulty("1+((1,2))", 5, 3);
    }

    private static void calls() {
        Check.faulty("1(1)", 5, 0);
        Check.faulty("PROC INT f=INT:1;f(1)", 5, 17);
        Check.faulty("PROC(INT)INT f=SKIP;f(1,2)", 5, 21);
        Check.faulty("PROC(INT,INT)INT f=SKIP;f(1)", 5, 25);
        Check.faulty("PROC(INT,INT)INT f=SKIP;f(x)", 3, 26);
        Check.faulty("PROC(INT,INT)INT f=SKIP;f(TRUE,x)", 3, 31);
        Check.faulty("PROC(INT,INT)INT f=SKIP;f(1,TRUE)", 5, 28);
        Check.faulty("PROC(INT)INT f=SKIP;f(1)(2)", 5, 21);
        Check.good("PROC REF PROC(INT)INT f=SKIP;f(1)");
    }

    private static void operations() {
        Check.faulty("1+TRUE", 6, 1);
        Check.faulty("1+LONG 1", 6, 1);
        Check.faulty("TRUE<FALSE", 6, 4);
        Check.good("TRUE=FALSE;TRUE/=FALSE;TRUE&FALSE!TRUE");
        Check.faulty("1&1", 6, 1);
        Check.faulty("~1", 6, 0);
        Check.faulty("-TRUE", 6, 0);
        Check.faulty("A 1", 6, 0);
        Check.faulty("1 A 1", 6, 2);
        Check.faulty("LENG LONG 1", 6, 0);
        Check.faulty("SHORTEN 1", 6, 0);
        Check.good("LENG 1;SHORTEN LONG 1;-LENG 1");
        Check.faulty("1 LENG 1", 6, 2);
        Check.faulty("OP +=(LONG a,INT b)INT:1;1+1;1+LONG 1", 6, 30);
        Check.faulty("(OP A=(INT a)INT:1;A 1);A 1", 6, 24);
        Check.good("A 1;OP A=(UNION(INT,BOOL)a)INT:1;A TRUE");
        Check.faulty("OP A=(INT a)INT:1;1 A 1", 6, 20);
    }

    private static void order() {
        Check.faulty("x;INT a=1;INT a=1;1", 2, 14);
        Check.faulty("x;(INT a=1;INT a=1;1)", 3, 0);
        Check.faulty("(INT a=TRUE;x);INT a=1;1", 5, 7);
        Check.faulty("LOC VOID a;MODE A=A;1", 4, 16);
        Check.faulty("MODE A=A;MODE B=INT;MODE B=INT;1", 2, 25);
        Check.faulty("LOC UNION(INT)a;MODE A=VOID;x", 4, 4);
        Check.faulty("TRUE+x", 3, 5);
        Check.faulty("NIL+x", 1, 3);
        Check.faulty("(NIL)+x", 5, 1);
        Check.faulty("IF 1 THEN x FI", 5, 3);
        Check.faulty("x:=y", 3, 0);
    }
}
