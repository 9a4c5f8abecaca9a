/** What each instruction of section 2 does (promises 15, 17, 19 above all), with its flags. */
public final class InstructionTest {
    private static final Check C = new Check("InstructionTest");
    private static final Steps S = new Steps(C);

    public static void main(String[] args) {
        additions();
        subtractions();
        logic();
        forms();
        singles();
        products();
        quotients();
        rotations();
        shifts();
        doubleShifts();
        moves();
        conditional();
        bits();
        exchanges();
        stack();
        jumps();
        rest();
        addresses();
        C.end();
    }

    private static void additions() {
        S.row("00 C1", "eax=FF ecx=12345601", "ecx=12345600 f=CPZ");
        S.row("00 C1", "eax=7F ecx=01", "ecx=80 f=SO");
        S.row("00 C1", "eax=80 ecx=80", "ecx=0 f=CPZO");
        S.row("00 C1", "eax=80 ecx=7F f=CPZO", "ecx=FF f=PS");
        S.row("00 C1", "eax=1 ecx=2 f=C", "ecx=3 f=P");
        S.row("01 C1", "eax=FFFFFFFF ecx=1", "ecx=0 f=CPZ");
        S.row("01 C1", "eax=7FFFFFFF ecx=1", "ecx=80000000 f=PSO");
        S.row("01 C1", "eax=80000000 ecx=80000000", "ecx=0 f=CPZO");
        S.row("01 C1", "eax=80000000 ecx=7FFFFFFF", "ecx=FFFFFFFF f=PS");
        S.row("01 C1", "eax=101 ecx=FF", "ecx=200 f=P");
        S.row("10 C1", "eax=FF ecx=0 f=C", "ecx=0 f=CPZ");
        S.row("10 C1", "eax=FF ecx=0", "ecx=FF f=PS");
        S.row("10 C1", "eax=7F ecx=0 f=C", "ecx=80 f=SO");
        S.row("10 C1", "eax=FF ecx=FF f=C", "ecx=FF f=CPS");
        S.row("11 C1", "eax=FFFFFFFF ecx=FFFFFFFF f=C", "ecx=FFFFFFFF f=CPS");
        S.row("11 C1", "eax=FFFFFFFF ecx=0 f=C", "ecx=0 f=CPZ");
        S.row("11 C1", "eax=7FFFFFFF ecx=0 f=C", "ecx=80000000 f=PSO");
        S.row("11 C1", "eax=1 ecx=1", "ecx=2 f=");
    }

    private static void subtractions() {
        S.row("28 C1", "eax=1 ecx=0", "ecx=FF f=CPS");
        S.row("28 C1", "eax=1 ecx=80", "ecx=7F f=O");
        S.row("28 C1", "eax=80 ecx=7F", "ecx=FF f=CPSO");
        S.row("28 C1", "eax=5 ecx=5 f=C", "ecx=0 f=PZ");
        S.row("29 C1", "eax=1 ecx=0", "ecx=FFFFFFFF f=CPS");
        S.row("29 C1", "eax=1 ecx=80000000", "ecx=7FFFFFFF f=PO");
        S.row("29 C1", "eax=80000000 ecx=0", "ecx=80000000 f=CPSO");
        S.row("29 C1", "eax=5 ecx=5", "ecx=0 f=PZ");
        S.row("18 C1", "eax=FF ecx=FF f=C", "ecx=FF f=CPS");
        S.row("18 C1", "eax=0 ecx=0 f=C", "ecx=FF f=CPS");
        S.row("18 C1", "eax=0 ecx=80 f=C", "ecx=7F f=O");
        S.row("18 C1", "eax=1 ecx=3", "ecx=2 f=");
        S.row("19 C1", "eax=FFFFFFFF ecx=FFFFFFFF f=C", "ecx=FFFFFFFF f=CPS");
        S.row("19 C1", "eax=FFFFFFFF ecx=0 f=C", "ecx=0 f=CPZ");
        S.row("19 C1", "eax=0 ecx=80000000 f=C", "ecx=7FFFFFFF f=PO");
        S.row("19 C1", "eax=1 ecx=3", "ecx=2 f=");
        S.row("38 C1", "eax=1 ecx=0", "f=CPS");
        S.row("38 C1", "eax=5 ecx=5", "f=PZ");
        S.row("39 C1", "eax=80000000 ecx=7FFFFFFF", "f=CPSO");
        S.row("39 C1", "eax=5 ecx=5 f=C", "f=PZ");
    }

    private static void logic() {
        S.row("08 C1", "eax=80 ecx=1 f=CPZO", "ecx=81 f=PS");
        S.row("09 C1", "eax=0 ecx=0 f=CSO", "ecx=0 f=PZ");
        S.row("09 C1", "eax=80000000 ecx=1", "ecx=80000001 f=S");
        S.row("20 C1", "eax=F0 ecx=FFFFFF0F f=CSO", "ecx=FFFFFF00 f=PZ");
        S.row("21 C1", "eax=F00000F0 ecx=F000000F f=CSO", "ecx=F0000000 f=PS");
        S.row("30 C1", "eax=FF ecx=FF f=C", "ecx=0 f=PZ");
        S.row("31 C1", "eax=FFFFFFFF ecx=7FFFFFFE f=CPZO", "ecx=80000001 f=S");
        S.row("84 C1", "eax=80 ecx=FF f=CPZO", "f=S");
        S.row("85 C1", "eax=80000000 ecx=7FFFFFFF f=CSO", "f=PZ");
        S.row("A8 7F", "eax=80 f=CSO", "f=PZ");
        S.row("A9 00 00 00 80", "eax=80000000 f=CO", "f=PS");
        S.row("F6 C5 80", "ecx=8000 f=CPZO", "f=S");
        S.row("F7 C1 01 00 00 00", "ecx=3 f=CSO", "f=");
        S.row("F6 03 0F", "m=F0 f=C", "f=PZ");
        S.row("F7 03 00 00 00 80", "m=80000000", "f=PS");
    }

    private static void forms() {
        // each order of operands and each place of a number, for add and cmp
        S.row("00 0B", "ecx=1 m=000000FF", "m=0 f=CPZ");
        S.row("01 0B", "ecx=1 m=FFFFFFFF", "m=0 f=CPZ");
        S.row("02 CD", "ecx=0201", "ecx=0203 f=P");
        S.row("02 0B", "ecx=1 m=12345602", "ecx=3 f=P");
        S.row("03 C8", "eax=1 ecx=2", "ecx=3 f=P");
        S.row("03 0B", "ecx=1 m=2", "ecx=3 f=P");
        S.row("04 FF", "eax=12345601", "eax=12345600 f=CPZ");
        S.row("05 FF 00 00 00", "eax=1", "eax=100 f=P");
        S.row("80 C4 01", "eax=FF00", "eax=0 f=CPZ");
        S.row("80 03 01", "m=FF", "m=0 f=CPZ");
        S.row("81 C1 01 00 00 80", "ecx=1", "ecx=80000002 f=S");
        S.row("83 C1 FF", "ecx=1", "ecx=0 f=CPZ");
        S.row("83 E3 E0", "ebx=FFFFFFFF", "ebx=FFFFFFE0 f=S");
        S.row("83 03 80", "m=0", "m=FFFFFF80 f=S");
        S.row("38 0B", "ecx=1 m=0", "f=CPS");
        S.row("3A 0B", "ecx=1 m=FFFFFF01", "f=PZ");
        S.row("3B 0B", "ecx=1 m=2", "f=CPS");
        S.row("3C 80", "eax=7F", "f=CPSO");
        S.row("3D 00 00 00 80", "eax=7FFFFFFF", "f=CPSO");
        S.row("83 3B 5A", "m=5A", "f=PZ");
        S.row("13 0B", "ecx=1 m=2 f=C", "ecx=4 f=");
        S.row("1B 0B", "ecx=5 m=2 f=C", "ecx=2 f=");
        S.row("0B 0B", "ecx=5 m=2", "ecx=7 f=");
        S.row("23 0B", "ecx=7 m=E", "ecx=6 f=P");
        S.row("2B 0B", "ecx=7 m=8", "ecx=FFFFFFFF f=CPS");
        S.row("33 0B", "ecx=7 m=8", "ecx=F f=P");
        S.row("00 C0", "eax=81", "eax=2 f=CO");
    }

    private static void singles() {
        S.row("41", "ecx=FFFFFFFF", "ecx=0 f=PZ");
        S.row("41", "ecx=7FFFFFFF f=C", "ecx=80000000 f=CPSO");
        S.row("49", "ecx=0", "ecx=FFFFFFFF f=PS");
        S.row("49", "ecx=80000000 f=C", "ecx=7FFFFFFF f=CPO");
        S.row("FE C1", "ecx=FFFFFFFF f=C", "ecx=FFFFFF00 f=CPZ");
        S.row("FE C5", "ecx=7F00", "ecx=8000 f=SO");
        S.row("FE C9", "ecx=00", "ecx=FF f=PS");
        S.row("FE 0B", "m=80", "m=7F f=O");
        S.row("FF 03", "m=1 f=C", "m=2 f=C");
        S.row("FF C9", "ecx=1", "ecx=0 f=PZ");
        S.row("F6 D1", "ecx=F0 f=CSO", "ecx=0F");
        S.row("F7 D1", "ecx=0 f=CPZO", "ecx=FFFFFFFF");
        S.row("F7 13", "m=FFFF0000", "m=FFFF");
        S.row("F6 D9", "ecx=0 f=CSO", "ecx=0 f=PZ");
        S.row("F6 D9", "ecx=80", "ecx=80 f=CSO");
        S.row("F6 DD", "ecx=0100", "ecx=FF00 f=CPS");
        S.row("F7 D9", "ecx=80000000", "ecx=80000000 f=CPSO");
        S.row("F7 D9", "ecx=1", "ecx=FFFFFFFF f=CPS");
        S.row("F7 1B", "m=0 f=C", "m=0 f=PZ");
    }

    private static void products() {
        S.row("F6 E1", "eax=12340010 ecx=10", "eax=12340100 f=CPZO");
        S.row("F6 E1", "eax=0F ecx=11", "eax=FF f=PS");
        S.row("F6 E4", "eax=FF02", "eax=1FE f=CSO");
        S.row("F6 E9", "eax=FF ecx=FF f=CPZO", "eax=1 f=");
        S.row("F6 E9", "eax=80 ecx=FF", "eax=80 f=CSO");
        S.row("F6 E9", "eax=FE ecx=40", "eax=FF80 f=S");
        S.row("F6 E9", "eax=FE ecx=41", "eax=FF7E f=CPO");
        S.row("F7 E1", "eax=FFFFFFFF ecx=FFFFFFFF", "eax=1 edx=FFFFFFFE f=CO");
        S.row("F7 E1", "eax=FFFF ecx=10001", "eax=FFFFFFFF edx=0 f=PS");
        S.row("F7 E1", "eax=0 ecx=5 f=CSO", "eax=0 edx=0 f=PZ");
        S.row("F7 E1", "eax=80000000 ecx=2", "eax=0 edx=1 f=CPZO");
        S.row("F7 E9", "eax=40000000 ecx=2", "eax=80000000 edx=0 f=CPSO");
        S.row("F6 E1", "eax=80 ecx=2", "eax=100 f=CPZO");
        S.row("F7 E9", "eax=FFFFFFFF ecx=FFFFFFFF f=C", "eax=1 edx=0 f=");
        S.row("F7 E9", "eax=FFFFFFFF ecx=1", "eax=FFFFFFFF edx=FFFFFFFF f=PS");
        S.row("F7 E9", "eax=80000000 ecx=FFFFFFFF", "eax=80000000 edx=0 f=CPSO");
        S.row("F7 2B", "eax=10000 m=10000", "eax=0 edx=1 f=CPZO");
        S.row("F6 23", "eax=3 m=FFFFFF02", "eax=6 f=P");
        S.row("0F AF C1", "eax=10000 ecx=10000", "eax=0 f=CPZO");
        S.row("0F AF C1", "eax=FFFFFFFE ecx=3 f=CO", "eax=FFFFFFFA f=PS");
        S.row("0F AF 03", "eax=7FFFFFFF m=2", "eax=FFFFFFFE f=CSO");
        S.row("6B C1 FE", "ecx=3 f=C", "eax=FFFFFFFA f=PS");
        S.row("6B 03 02", "m=40000000", "eax=80000000 f=CPSO");
        S.row("69 C1 00 00 00 80", "ecx=1", "eax=80000000 f=PS");
        S.row("69 C1 00 00 00 80", "ecx=FFFFFFFF", "eax=80000000 f=CPSO");
        S.row("69 03 00 01 00 00", "m=7", "eax=700 f=P");
    }

    private static void quotients() {
        S.row("F6 F1", "eax=123400FF ecx=10 f=CSO", "eax=12340F0F");
        S.row("F6 F1", "eax=FEFF ecx=FF", "eax=FEFF");
        S.not("F6 F1", "eax=FF00 ecx=FF f=C", 4);
        S.not("F6 F1", "eax=1 ecx=12345600", 4);
        S.row("F6 F9", "eax=FFF9 ecx=2", "eax=FFFD");
        S.row("F6 F9", "eax=7 ecx=FE", "eax=1FD");
        S.row("F6 F9", "eax=FF80 ecx=1", "eax=80");
        S.not("F6 F9", "eax=FF80 ecx=FF", 4);
        S.not("F6 F9", "eax=80 ecx=1", 4);
        S.not("F6 F9", "eax=8000 ecx=FF", 4);
        S.not("F6 F9", "eax=5 ecx=0", 4);
        S.row("F6 F9", "eax=C0FF ecx=7F", "eax=81");
        S.row("F7 F1", "eax=0 edx=1 ecx=2 f=CPZO", "eax=80000000 edx=0");
        S.row("F7 F1", "eax=FFFFFFFF edx=FFFFFFFE ecx=FFFFFFFF", "eax=FFFFFFFF edx=FFFFFFFE");
        S.not("F7 F1", "eax=0 edx=FFFFFFFF ecx=FFFFFFFF", 4);
        S.not("F7 F1", "eax=0 edx=2 ecx=2", 4);
        S.not("F7 F1", "eax=1 edx=0 ecx=0", 4);
        S.row("F7 F1", "eax=64 edx=0 ecx=7", "eax=E edx=2");
        S.row("F7 F9", "eax=FFFFFF9C edx=FFFFFFFF ecx=7 f=CSO", "eax=FFFFFFF2 edx=FFFFFFFE");
        S.row("F7 F9", "eax=64 edx=0 ecx=FFFFFFF9", "eax=FFFFFFF2 edx=2");
        S.row("F7 F9", "eax=80000000 edx=FFFFFFFF ecx=1", "eax=80000000 edx=0");
        S.not("F7 F9", "eax=80000000 edx=FFFFFFFF ecx=FFFFFFFF", 4);
        S.not("F7 F9", "eax=0 edx=80000000 ecx=FFFFFFFF", 4);
        S.not("F7 F9", "eax=80000000 edx=0 ecx=1", 4);
        S.not("F7 F9", "eax=1 edx=0 ecx=0", 4);
        S.row("F7 33", "eax=A edx=0 m=3", "eax=3 edx=1");
        S.not("F7 33", "eax=A edx=0 m=0", 4);
        S.not("F7 33", "ebx=20000 f=C", 5);
        S.row("F6 3B", "eax=A m=FFFFFF03", "eax=103");
    }

    private static void rotations() {
        S.row("D0 C1", "ecx=81 f=PZ", "ecx=03 f=CPZO");
        S.row("D0 C1", "ecx=40 f=C", "ecx=80 f=O");
        S.row("D1 C1", "ecx=C0000000", "ecx=80000001 f=C");
        S.row("C0 C1 08", "ecx=81 f=PZ", "ecx=81 f=CPZ");
        S.row("C1 C1 1F", "ecx=2", "ecx=1 f=CO");
        S.row("C1 C1 20", "ecx=2 f=CSO", "");
        S.row("C1 C1 21", "ecx=2 f=CPZO", "ecx=4 f=PZ");
        S.row("D0 C9", "ecx=01", "ecx=80 f=CO");
        S.row("D1 C9", "ecx=2 f=CSO", "ecx=1 f=S");
        S.row("C1 C9 1F", "ecx=40000000", "ecx=80000000 f=CO");
        S.row("D0 D1", "ecx=80 f=C", "ecx=01 f=CO");
        S.row("D0 D1", "ecx=40", "ecx=80 f=O");
        S.row("C0 D1 09", "ecx=A5 f=C", "ecx=A5 f=C");
        S.row("C0 D1 09", "ecx=A5", "ecx=A5 f=O");
        S.row("D1 D1", "ecx=80000000", "ecx=0 f=CO");
        S.row("C1 D1 1F", "ecx=1 f=C", "ecx=C0000000 f=O");
        S.row("D0 D9", "ecx=01 f=C", "ecx=80 f=CO");
        S.row("D0 D9", "ecx=03", "ecx=01 f=C");
        S.row("D1 D9", "ecx=80000000 f=C", "ecx=C0000000 f=");
        S.row("D1 D9", "ecx=80000001", "ecx=40000000 f=CO");
        S.row("D3 C1", "ecx=4", "ecx=40 f=");
        S.row("D2 C1", "ecx=E0 f=CSO", "");
        S.row("D2 C0", "eax=81 ecx=101", "eax=03 f=CO");
        S.row("D1 03", "m=80000000 f=PZ", "m=1 f=CPZO");
        S.row("D2 0B", "m=1 ecx=1", "m=80 f=CO");
    }

    private static void shifts() {
        S.row("D0 E1", "ecx=80", "ecx=0 f=CPZO");
        S.row("D0 E1", "ecx=C0", "ecx=80 f=CS");
        S.row("D0 E1", "ecx=40 f=C", "ecx=80 f=SO");
        S.row("D1 E1", "ecx=40000001", "ecx=80000002 f=SO");
        S.row("C1 E1 1F", "ecx=3", "ecx=80000000 f=CPS");
        S.row("C1 E1 00", "ecx=3 f=CSO", "");
        S.row("C1 E1 40", "ecx=3 f=CSO", "");
        S.row("C1 E1 FF", "ecx=1", "ecx=80000000 f=PSO");
        S.row("C0 E1 08", "ecx=1", "ecx=0 f=CPZO");
        S.row("C0 E1 09", "ecx=FF f=C", "ecx=0 f=PZ");
        S.row("C0 E1 1F", "ecx=FF f=C", "ecx=0 f=PZ");
        S.row("D0 E9", "ecx=81", "ecx=40 f=CO");
        S.row("D0 E9", "ecx=01 f=SO", "ecx=0 f=CPZ");
        S.row("C0 E9 02", "ecx=81", "ecx=20 f=");
        S.row("C0 E9 08", "ecx=81", "ecx=0 f=CPZ");
        S.row("D1 E9", "ecx=80000000", "ecx=40000000 f=PO");
        S.row("C1 E9 1F", "ecx=C0000000", "ecx=1 f=C");
        S.row("D0 F9", "ecx=81 f=SO", "ecx=C0 f=CPS");
        S.row("D1 F9", "ecx=80000001 f=SO", "ecx=C0000000 f=CPS");
        S.row("C1 F9 1F", "ecx=80000000", "ecx=FFFFFFFF f=PS");
        S.row("C0 F9 1F", "ecx=80", "ecx=FF f=CPS");
        S.row("C0 F9 1F", "ecx=7F f=C", "ecx=0 f=PZ");
        S.row("D3 E0", "eax=1 ecx=2F", "eax=8000 f=P");
        S.row("D3 E8", "eax=1 ecx=FFFFFF20 f=CSO", "");
        S.row("D2 FD", "ecx=8001", "ecx=C001 f=PS");
        S.row("D3 23", "m=1 ecx=1F", "m=80000000 f=PSO");
        S.row("C0 2B 01", "m=AAAAAA03", "m=AAAAAA01 f=C");
        // nothing is done, but E is read
        S.row("C1 23 00", "ebx=1000 f=C", "");
        S.not("C1 23 00", "ebx=20000", 5);
        S.not("D3 23", "ebx=FFFF ecx=20", 5);
        S.not("C1 23 01", "ebx=1000 f=C", 6);
    }

    private static void doubleShifts() {
        S.row("0F A4 C1 01", "ecx=80000000 eax=80000000", "ecx=1 f=CO");
        S.row("0F A4 C1 04", "ecx=12345678 eax=9ABCDEF0 f=PZ", "ecx=23456789 f=C");
        S.row("0F A4 C1 04", "ecx=02345678 eax=9ABCDEF0", "ecx=23456789 f=");
        S.row("0F A4 C1 1F", "ecx=1 eax=FFFFFFFE", "ecx=FFFFFFFF f=PSO");
        S.row("0F A4 C1 20", "f=CSO", "");
        S.row("0F A4 C1 00", "f=CSO", "");
        S.row("0F A4 C1 21", "ecx=0 eax=0", "ecx=0 f=PZ");
        S.row("0F A4 03 08", "m=11223344 eax=55667788", "m=22334455 f=CP");
        S.row("0F AC C1 01", "ecx=1 eax=1", "ecx=80000000 f=CPSO");
        S.row("0F AC C1 04", "ecx=12345678 eax=9ABCDEF7", "ecx=71234567 f=C");
        S.row("0F AC C1 04", "ecx=92345678 eax=9ABCDEF7", "ecx=79234567 f=CO");
        S.row("0F AC C1 1F", "ecx=80000000 eax=0", "ecx=1 f=O");
        S.row("0F AC C1 60", "f=CSO", "");
        S.row("0F AC 03 FF", "m=80000000 eax=0", "m=1 f=O");
        S.not("0F A4 03 20", "ebx=0", 5);
        S.row("0F A4 03 20", "ebx=1000", "");
        S.not("0F AC 03 01", "ebx=1000", 6);
    }

    private static void moves() {
        String all = "f=CPZO";
        S.row("88 C5", "ecx=12345678 eax=AB " + all, "ecx=1234AB78");
        S.row("89 C1", all, "ecx=11111111");
        S.row("8A EC", "eax=CD00 ecx=12345678 " + all, "ecx=1234CD78");
        S.row("8B C8", all, "ecx=11111111");
        S.row("88 03", "eax=99 m=11223344", "m=11223399");
        S.row("89 03", "m=0", "m=11111111");
        S.row("8A 03", "m=11223344", "eax=11111144");
        S.row("8B 03", "m=11223344", "eax=11223344");
        S.row("66 89 C1", "eax=AAAABBBB " + all, "ecx=2222BBBB");
        S.row("66 89 03", "eax=AAAABBBB m=0", "m=BBBB");
        S.row("66 8B 03", "m=11223344 " + all, "eax=11113344");
        S.row("66 8B C1", "ecx=1234FFFF", "eax=1111FFFF");
        S.row("B5 FF", all, "ecx=2222FF22");
        S.row("B1 80", "", "ecx=22222280");
        S.row("B9 78 56 34 12", all, "ecx=12345678");
        S.row("C6 C5 01", "", "ecx=22220122");
        S.row("C6 03 FF", "m=0 " + all, "m=FF");
        S.row("C7 C1 FF FF FF FF", "", "ecx=FFFFFFFF");
        S.row("C7 03 04 03 02 01", all, "m=01020304");
        S.row("0F B6 C5", "ecx=FF80 " + all, "eax=FF");
        S.row("0F B6 03", "m=11223380", "eax=80");
        S.row("0F B7 C1", "ecx=12348000", "eax=8000");
        S.row("0F B7 03", "m=11228001", "eax=8001");
        S.row("0F BE C5", "ecx=8000 " + all, "eax=FFFFFF80");
        S.row("0F BE 03", "m=1122337F", "eax=7F");
        S.row("0F BF C1", "ecx=12348000", "eax=FFFF8000");
        S.row("0F BF 03", "m=11227FFF", "eax=7FFF");
        S.row("8D 43 05", all, "eax=10105");
        S.row("8D 04 4D FF FF FF FF", "ecx=80000000", "eax=FFFFFFFF");
        S.row("8D 44 8B 80", "ebx=FFFFFFFF ecx=40000000", "eax=FFFFFF7F");
        S.row("98", "eax=12348000 " + all, "eax=FFFF8000");
        S.row("98", "eax=FFFF7FFF", "eax=7FFF");
        S.row("99", "eax=80000000 " + all, "edx=FFFFFFFF");
        S.row("99", "eax=7FFFFFFF", "edx=0");
        S.row("0F C9", "ecx=12345678 " + all, "ecx=78563412");
        S.row("0F 1F 03", "ebx=0 " + all, "");
        S.row("0F 1F C1", "", "");
        S.row("90", all, "");
        S.row("66 90", all, "");
    }

    /** What each condition says of flags, told by letters. */
    private static boolean holds(int c, String f) {
        boolean less = f.contains("S") != f.contains("O");
        boolean[] even = {f.contains("O"), f.contains("C"), f.contains("Z"), f.contains("C") || f.contains("Z"),
            f.contains("S"), f.contains("P"), less, f.contains("Z") || less};
        return even[c / 2] == (c % 2 == 0);
    }

    private static void conditional() {
        String[] flags = {"", "C", "P", "CP", "PZ", "CPZ", "S", "CS", "PS", "CPS", "O", "CO", "SO", "CSO", "PSO",
            "CPZO", "PZO"};
        for (String f : flags) {
            for (int c = 0; c < 16; c++) {
                boolean is = holds(c, f);
                String with = "f=" + f;
                S.row(String.format("0F %02X C1", 0x40 + c), with, is ? "eax=22222222" : "");
                S.row(String.format("0F %02X 03", 0x40 + c), with, is ? "eax=5A5A5A5A" : "");
                S.not(String.format("0F %02X 03", 0x40 + c), with + " ebx=20000", 5);
                S.row(String.format("0F %02X C1", 0x90 + c), with, is ? "ecx=22222201" : "ecx=22222200");
                S.row(String.format("0F %02X 3B", 0x90 + c), with, is ? "m=5A5A5A01" : "m=5A5A5A00");
                S.row(String.format("%02X 10", 0x70 + c), with, is ? "eip=1017" : "");
                S.row(String.format("0F %02X F0 FF FF FF", 0x80 + c), with, is ? "eip=FFB" : "");
            }
        }
    }

    private static void bits() {
        S.row("0F BC C1", "ecx=0 f=CSO", "f=CZSO");
        S.row("0F BC C1", "ecx=80000000 f=CPZO", "eax=1F f=CPO");
        S.row("0F BC C1", "ecx=FFFFFFF0", "eax=4");
        S.row("0F BD C1", "ecx=0", "f=Z");
        S.row("0F BD C1", "ecx=80000001 f=PZ", "eax=1F f=P");
        S.row("0F BD 03", "m=1", "eax=0");
        S.row("0F BC 03", "m=100", "eax=8");
    }

    private static void exchanges() {
        String all = "f=CPZO";
        S.row("86 C5", "eax=11 ecx=2233 " + all, "eax=22 ecx=1133");
        S.row("86 E0", "eax=1122", "eax=2211");
        S.row("87 C1", all, "eax=22222222 ecx=11111111");
        S.row("87 03", all, "eax=5A5A5A5A m=11111111");
        S.row("86 03", "eax=FF m=11223344", "eax=44 m=112233FF");
        S.row("87 1B", "m=7", "ebx=7 m=10100");
        S.row("91", all, "eax=22222222 ecx=11111111");
        S.row("94", "", "eax=10200 esp=11111111");
        S.row("0F C1 C1", "eax=1 ecx=FFFFFFFF", "eax=FFFFFFFF ecx=0 f=CPZ");
        S.row("0F C1 03", "eax=7FFFFFFF m=1", "eax=1 m=80000000 f=PSO");
        S.row("0F C1 C0", "eax=3 f=C", "eax=6 f=P");
        S.row("0F C1 1B", "m=1", "ebx=1 m=10101 f=");
        S.row("0F B1 C1", "eax=22222222 f=C", "ecx=22222222 f=PZ");
        S.row("0F B1 D1", "eax=22222222", "ecx=33333333 f=PZ");
        S.row("0F B1 D1", "eax=1 ecx=2", "eax=2 f=CPS");
        S.row("0F B1 13", "eax=5A5A5A5A f=C", "m=33333333 f=PZ");
        S.row("0F B1 13", "eax=80000000 m=1", "eax=1 f=PO");
        S.row("0F B1 D0", "eax=9", "eax=33333333 f=PZ");
        // E is not written if it is another one
        S.row("0F B1 13", "ebx=1000 eax=0", "eax=" + firstLong() + " f=" + firstFlags());
        S.not("0F B1 13", "ebx=1000 eax=" + firstLong(), 6);
        S.not("0F B1 13", "ebx=20000", 5);
    }

    /** The image begins with the preamble that sets no flags. */
    private static String firstLong() {
        int[] b = Fences.bytes(Steps.preamble(0));
        return String.format("%02X%02X%02X%02X", b[3], b[2], b[1], b[0]);
    }

    private static String firstFlags() {
        int r = -(int) Long.parseLong(firstLong(), 16);
        String f = "C" + (Integer.bitCount(r & 0xFF) % 2 == 0 ? "P" : "");
        return r < 0 ? f + "S" : f;
    }

    private static void stack() {
        String all = "f=CSO";
        S.row("51", all, "esp=101FC t=22222222");
        S.row("54", "", "esp=101FC t=10200");
        S.row("68 78 56 34 12", all, "esp=101FC t=12345678");
        S.row("6A FF", "", "esp=101FC t=FFFFFFFF");
        S.row("FF 33", "m=7 " + all, "esp=101FC t=7");
        S.row("FF 34 24", "s=8", "esp=101FC t=8");
        S.row("FF F1", "", "esp=101FC t=22222222");
        S.row("59", "s=9 " + all, "ecx=9 esp=10204");
        S.row("5C", "s=9", "esp=9");
        S.row("8F C4", "s=9", "esp=9");
        S.row("8F C1", "s=9", "ecx=9 esp=10204");
        S.row("8F 03", "s=9 " + all, "m=9 esp=10204");
        S.row("8F 44 24 FC", "s=9 esp=10200", "esp=10204");
        S.row("8F 44 24 F8", "s=9 t=1", "t=9 esp=10204");
        S.row("8F 04 24", "esp=10100 m=5 n=6", "n=5 esp=10104");
        S.row("E8 10 00 00 00", all, "esp=101FC t=100A eip=101A");
        S.row("E8 F6 FF FF FF", "", "esp=101FC t=100A eip=1000");
        S.row("FF D1", "ecx=1234", "esp=101FC t=1007 eip=1234");
        S.row("FF D4", "", "esp=101FC t=1007 eip=10200");
        // esp at the edges of DATA
        S.row("51", "esp=20000", "esp=1FFFC");
        S.not("51", "esp=10000", 5);
        S.not("51", "esp=10003", 5);
        S.row("51", "esp=10004", "esp=10000");
        S.not("51", "esp=20001", 5);
        S.not("51", "esp=20004", 5);
        S.not("51", "esp=21000", 5);
        S.not("51", "esp=21001", 6);
        S.not("51", "esp=F004", 5);
        S.not("51", "esp=F003", 6);
        S.not("51", "esp=0", 6);
        S.not("51", "esp=2", 6);
        S.not("59", "esp=1FFFD", 5);
        S.row("59", "esp=1FFFC", "ecx=0 esp=20000");
        S.not("59", "esp=20000", 5);
        S.not("E8 00 00 00 00", "esp=10000", 5);
        S.not("FF D1", "esp=0", 6);
        // what is read and what is written, each not there
        S.not("FF 33", "ebx=0 esp=0", 5);
        S.not("FF 33", "esp=0", 6);
        S.not("FF 33", "esp=20001", 5);
        S.not("8F 03", "ebx=0 esp=20000", 5);
        S.not("8F 03", "ebx=0", 6);
        S.not("8F 03", "ebx=20000", 5);
        S.not("8F 04 24", "esp=1FFFC", 5);
        S.not("8F 44 24 FC", "esp=1000", 6);
    }

    private static void jumps() {
        String all = "f=CSO";
        S.row("EB 10", all, "eip=1017");
        S.row("EB 80", "", "eip=F87");
        S.row("E9 00 00 00 80", "", "eip=8000100A");
        S.row("E9 F6 EF FF FF", all, "eip=0");
        S.row("E9 F5 EF FF FF", "", "eip=FFFFFFFF");
        S.row("FF E1", "ecx=89ABCDEF " + all, "eip=89ABCDEF");
        S.row("E2 10", "ecx=2 " + all, "ecx=1 eip=1017");
        S.row("E2 10", "ecx=1", "ecx=0");
        S.row("E2 10", "ecx=0 f=CPZO", "ecx=FFFFFFFF eip=1017");
        S.row("E3 10", "ecx=0 " + all, "eip=1017");
        S.row("E3 10", "ecx=1", "");
        S.row("E3 10", "ecx=80000000", "");
    }

    private static void rest() {
        S.row("F8", "f=CSO", "f=SO");
        S.row("F8", "f=PZ", "");
        S.row("F9", "f=PZ", "f=CPZ");
        S.row("F9", "f=C", "");
        S.row("F5", "f=PZO", "f=CPZO");
        S.row("F5", "f=CPZO", "f=PZO");
        S.row("F4", "f=CPZO", "");
    }

    private static void addresses() {
        // base, index and displacement wrap together
        S.row("8B 04 CB", "ebx=10100 ecx=0 m=1", "eax=1");
        S.row("8B 44 8B 04", "ecx=FFFFFFFF m=1", "eax=1");
        S.row("8B 84 CB 00 00 00 80", "ebx=80010100 ecx=0 m=1", "eax=1");
        S.row("8B 04 CB", "ecx=20000000 m=1", "eax=1");
        S.row("8B 05 00 01 01 00", "m=1", "eax=1");
        S.row("8B 04 0D 00 01 01 00", "ecx=0 m=1", "eax=1");
        S.row("8B 04 24", "s=5", "eax=5");
        S.row("8B 45 00", "ebp=10100 m=1", "eax=1");
        S.row("8B 44 25 00", "ebp=10100 m=1", "eax=1");
        S.row("8B 46 FC", "esi=10104 m=1", "eax=1");
        // reading at the edges
        S.row("8A 03", "ebx=10000", "eax=11111100");
        S.row("8A 03", "ebx=1FFFF", "eax=11111100");
        S.not("8A 03", "ebx=FFFF", 5);
        S.not("8A 03", "ebx=20000", 5);
        S.row("8B 03", "ebx=1FFFC", "eax=0");
        S.not("8B 03", "ebx=1FFFD", 5);
        S.not("8B 03", "ebx=FFFD", 5);
        S.row("66 8B 03", "ebx=1FFFE", "eax=11110000");
        S.not("66 8B 03", "ebx=1FFFF", 5);
        S.row("8A 03", "ebx=1000", "eax=111111B0");
        S.row("8A 03", "ebx=103F", "eax=111111F4");
        S.not("8A 03", "ebx=1040", 5);
        S.not("8A 03", "ebx=FFF", 5);
        S.row("8B 03", "ebx=103C", "eax=F4909090");
        S.not("8B 03", "ebx=103D", 5);
        S.not("8B 03", "ebx=FFF", 5);
        S.not("8B 03", "ebx=0", 5);
        S.not("8B 03", "ebx=400", 5);
        S.not("8B 03", "ebx=FFFFFFFF", 5);
        S.not("8B 03", "ebx=80010100", 5);
        // writing at the edges
        S.row("88 03", "ebx=10000", "");
        S.row("88 03", "ebx=1FFFF", "");
        S.not("88 03", "ebx=FFFF", 5);
        S.not("88 03", "ebx=20000", 5);
        S.not("88 03", "ebx=F000", 5);
        S.not("88 03", "ebx=EFFF", 6);
        S.not("88 03", "ebx=20FFF", 5);
        S.not("88 03", "ebx=21000", 6);
        S.not("89 03", "ebx=FFFD", 5);
        S.not("89 03", "ebx=1FFFD", 5);
        S.not("89 03", "ebx=EFFF", 6);
        S.not("89 03", "ebx=20FFC", 5);
        S.not("89 03", "ebx=20FFD", 6);
        S.not("89 03", "ebx=1000", 6);
        S.not("89 03", "ebx=FFFFFFFE", 6);
        S.not("89 03", "ebx=FFFFFFFC", 6);
        S.not("89 03", "ebx=0", 6);
        S.not("89 03", "ebx=80010100", 6);
        // reading comes first
        S.not("01 03", "ebx=20000", 5);
        S.not("01 03", "ebx=21000", 5);
        S.not("01 03", "ebx=1000 f=CSO", 6);
        S.not("FF 03", "ebx=1000 f=CSO", 6);
        S.not("87 03", "ebx=1000", 6);
        S.not("87 03", "ebx=0", 5);
        S.not("0F C1 03", "ebx=1000 f=C", 6);
        S.not("0F 94 03", "ebx=0", 6);
        S.not("39 03", "ebx=0", 5);
        S.row("39 03", "ebx=1000 eax=" + firstLong(), "f=PZ");
    }
}
